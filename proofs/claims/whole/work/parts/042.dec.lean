theorem dX8_init_0 : decode cX8_init 0 = .ok (.aload_n 0, 1) := by decide +kernel
theorem dX8_init_1 : decode cX8_init 1 = .ok (.invokespecial 1, 3) := by decide +kernel
theorem dX8_init_4 : decode cX8_init 4 = .ok (.aload_n 0, 1) := by decide +kernel
theorem dX8_init_5 : decode cX8_init 5 = .ok (.iconst 5, 1) := by decide +kernel
theorem dX8_init_6 : decode cX8_init 6 = .ok (.newarray .int, 2) := by decide +kernel
theorem dX8_init_8 : decode cX8_init 8 = .ok (.putfield 7, 3) := by decide +kernel
theorem dX8_init_11 : decode cX8_init 11 = .ok (.aload_n 0, 1) := by decide +kernel
theorem dX8_init_12 : decode cX8_init 12 = .ok (.iconst 5, 1) := by decide +kernel
theorem dX8_init_13 : decode cX8_init 13 = .ok (.newarray .int, 2) := by decide +kernel
theorem dX8_init_15 : decode cX8_init 15 = .ok (.putfield 13, 3) := by decide +kernel
theorem dX8_init_18 : decode cX8_init 18 = .ok (.aload_n 0, 1) := by decide +kernel
theorem dX8_init_19 : decode cX8_init 19 = .ok (.iconst 5, 1) := by decide +kernel
theorem dX8_init_20 : decode cX8_init 20 = .ok (.newarray .int, 2) := by decide +kernel
theorem dX8_init_22 : decode cX8_init 22 = .ok (.putfield 16, 3) := by decide +kernel
theorem dX8_init_25 : decode cX8_init 25 = .ok (.aload_n 0, 1) := by decide +kernel
theorem dX8_init_26 : decode cX8_init 26 = .ok (.iconst 5, 1) := by decide +kernel
theorem dX8_init_27 : decode cX8_init 27 = .ok (.newarray .int, 2) := by decide +kernel
theorem dX8_init_29 : decode cX8_init 29 = .ok (.putfield 19, 3) := by decide +kernel
theorem dX8_init_32 : decode cX8_init 32 = .ok (.aload_n 0, 1) := by decide +kernel
theorem dX8_init_33 : decode cX8_init 33 = .ok (.bipush 100, 2) := by decide +kernel
theorem dX8_init_35 : decode cX8_init 35 = .ok (.newarray .int, 2) := by decide +kernel
theorem dX8_init_37 : decode cX8_init 37 = .ok (.putfield 22, 3) := by decide +kernel
theorem dX8_init_40 : decode cX8_init 40 = .ok (.aload_n 0, 1) := by decide +kernel
theorem dX8_init_41 : decode cX8_init 41 = .ok (.iconst 5, 1) := by decide +kernel
theorem dX8_init_42 : decode cX8_init 42 = .ok (.newarray .int, 2) := by decide +kernel
theorem dX8_init_44 : decode cX8_init 44 = .ok (.putfield 25, 3) := by decide +kernel
theorem dX8_init_47 : decode cX8_init 47 = .ok (.aload_n 0, 1) := by decide +kernel
theorem dX8_init_48 : decode cX8_init 48 = .ok (.bipush 60, 2) := by decide +kernel
theorem dX8_init_50 : decode cX8_init 50 = .ok (.newarray .int, 2) := by decide +kernel
theorem dX8_init_52 : decode cX8_init 52 = .ok (.putfield 28, 3) := by decide +kernel
theorem dX8_init_55 : decode cX8_init 55 = .ok (.aload_n 0, 1) := by decide +kernel
theorem dX8_init_56 : decode cX8_init 56 = .ok (.bipush 60, 2) := by decide +kernel
theorem dX8_init_58 : decode cX8_init 58 = .ok (.newarray .int, 2) := by decide +kernel
theorem dX8_init_60 : decode cX8_init 60 = .ok (.putfield 31, 3) := by decide +kernel
theorem dX8_init_63 : decode cX8_init 63 = .ok (.aload_n 0, 1) := by decide +kernel
theorem dX8_init_64 : decode cX8_init 64 = .ok (.bipush 60, 2) := by decide +kernel
theorem dX8_init_66 : decode cX8_init 66 = .ok (.newarray .int, 2) := by decide +kernel
theorem dX8_init_68 : decode cX8_init 68 = .ok (.putfield 34, 3) := by decide +kernel
theorem dX8_init_71 : decode cX8_init 71 = .ok (.aload_n 0, 1) := by decide +kernel
theorem dX8_init_72 : decode cX8_init 72 = .ok (.bipush 60, 2) := by decide +kernel
theorem dX8_init_74 : decode cX8_init 74 = .ok (.newarray .int, 2) := by decide +kernel
theorem dX8_init_76 : decode cX8_init 76 = .ok (.putfield 37, 3) := by decide +kernel
theorem dX8_init_79 : decode cX8_init 79 = .ok (.aload_n 0, 1) := by decide +kernel
theorem dX8_init_80 : decode cX8_init 80 = .ok (.bipush 60, 2) := by decide +kernel
theorem dX8_init_82 : decode cX8_init 82 = .ok (.newarray .int, 2) := by decide +kernel
theorem dX8_init_84 : decode cX8_init 84 = .ok (.putfield 40, 3) := by decide +kernel
theorem dX8_init_87 : decode cX8_init 87 = .ok (.aload_n 0, 1) := by decide +kernel
theorem dX8_init_88 : decode cX8_init 88 = .ok (.bipush 60, 2) := by decide +kernel
theorem dX8_init_90 : decode cX8_init 90 = .ok (.newarray .int, 2) := by decide +kernel
theorem dX8_init_92 : decode cX8_init 92 = .ok (.putfield 43, 3) := by decide +kernel
theorem dX8_init_95 : decode cX8_init 95 = .ok (.aload_n 0, 1) := by decide +kernel
theorem dX8_init_96 : decode cX8_init 96 = .ok (.sipush 5255, 3) := by decide +kernel
theorem dX8_init_99 : decode cX8_init 99 = .ok (.newarray .int, 2) := by decide +kernel
theorem dX8_init_101 : decode cX8_init 101 = .ok (.putfield 46, 3) := by decide +kernel
theorem dX8_init_104 : decode cX8_init 104 = .ok (.aload_n 0, 1) := by decide +kernel
theorem dX8_init_105 : decode cX8_init 105 = .ok (.bipush 16, 2) := by decide +kernel
theorem dX8_init_107 : decode cX8_init 107 = .ok (.newarray .int, 2) := by decide +kernel
theorem dX8_init_109 : decode cX8_init 109 = .ok (.putfield 49, 3) := by decide +kernel
theorem dX8_init_112 : decode cX8_init 112 = .ok (.aload_n 0, 1) := by decide +kernel
theorem dX8_init_113 : decode cX8_init 113 = .ok (.sipush 1000, 3) := by decide +kernel
theorem dX8_init_116 : decode cX8_init 116 = .ok (.newarray .int, 2) := by decide +kernel
theorem dX8_init_118 : decode cX8_init 118 = .ok (.putfield 52, 3) := by decide +kernel
theorem dX8_init_121 : decode cX8_init 121 = .ok (.aload_n 0, 1) := by decide +kernel
theorem dX8_init_122 : decode cX8_init 122 = .ok (.iconst 5, 1) := by decide +kernel
theorem dX8_init_123 : decode cX8_init 123 = .ok (.newarray .int, 2) := by decide +kernel
theorem dX8_init_125 : decode cX8_init 125 = .ok (.putfield 55, 3) := by decide +kernel
theorem dX8_init_128 : decode cX8_init 128 = .ok (.aload_n 0, 1) := by decide +kernel
theorem dX8_init_129 : decode cX8_init 129 = .ok (.iconst 5, 1) := by decide +kernel
theorem dX8_init_130 : decode cX8_init 130 = .ok (.newarray .int, 2) := by decide +kernel
theorem dX8_init_132 : decode cX8_init 132 = .ok (.putfield 58, 3) := by decide +kernel
theorem dX8_init_135 : decode cX8_init 135 = .ok (.aload_n 0, 1) := by decide +kernel
theorem dX8_init_136 : decode cX8_init 136 = .ok (.bipush 60, 2) := by decide +kernel
theorem dX8_init_138 : decode cX8_init 138 = .ok (.newarray .int, 2) := by decide +kernel
theorem dX8_init_140 : decode cX8_init 140 = .ok (.putfield 61, 3) := by decide +kernel
theorem dX8_init_143 : decode cX8_init 143 = .ok (.aload_n 0, 1) := by decide +kernel
theorem dX8_init_144 : decode cX8_init 144 = .ok (.bipush 60, 2) := by decide +kernel
theorem dX8_init_146 : decode cX8_init 146 = .ok (.newarray .int, 2) := by decide +kernel
theorem dX8_init_148 : decode cX8_init 148 = .ok (.putfield 64, 3) := by decide +kernel
theorem dX8_init_151 : decode cX8_init 151 = .ok (.aload_n 0, 1) := by decide +kernel
theorem dX8_init_152 : decode cX8_init 152 = .ok (.bipush 60, 2) := by decide +kernel
theorem dX8_init_154 : decode cX8_init 154 = .ok (.newarray .int, 2) := by decide +kernel
theorem dX8_init_156 : decode cX8_init 156 = .ok (.putfield 67, 3) := by decide +kernel
theorem dX8_init_159 : decode cX8_init 159 = .ok (.aload_n 0, 1) := by decide +kernel
theorem dX8_init_160 : decode cX8_init 160 = .ok (.bipush 60, 2) := by decide +kernel
theorem dX8_init_162 : decode cX8_init 162 = .ok (.newarray .int, 2) := by decide +kernel
theorem dX8_init_164 : decode cX8_init 164 = .ok (.putfield 70, 3) := by decide +kernel
theorem dX8_init_167 : decode cX8_init 167 = .ok (.aload_n 0, 1) := by decide +kernel
theorem dX8_init_168 : decode cX8_init 168 = .ok (.sipush 2400, 3) := by decide +kernel
theorem dX8_init_171 : decode cX8_init 171 = .ok (.newarray .int, 2) := by decide +kernel
theorem dX8_init_173 : decode cX8_init 173 = .ok (.putfield 73, 3) := by decide +kernel
theorem dX8_init_176 : decode cX8_init 176 = .ok (.aload_n 0, 1) := by decide +kernel
theorem dX8_init_177 : decode cX8_init 177 = .ok (.sipush 2400, 3) := by decide +kernel
theorem dX8_init_180 : decode cX8_init 180 = .ok (.newarray .int, 2) := by decide +kernel
theorem dX8_init_182 : decode cX8_init 182 = .ok (.putfield 76, 3) := by decide +kernel
theorem dX8_init_185 : decode cX8_init 185 = .ok (.aload_n 0, 1) := by decide +kernel
theorem dX8_init_186 : decode cX8_init 186 = .ok (.sipush 2400, 3) := by decide +kernel
theorem dX8_init_189 : decode cX8_init 189 = .ok (.newarray .int, 2) := by decide +kernel
theorem dX8_init_191 : decode cX8_init 191 = .ok (.putfield 79, 3) := by decide +kernel
theorem dX8_init_194 : decode cX8_init 194 = .ok (.return_, 1) := by decide +kernel
theorem dX8_thrown_0 : decode cX8_thrown 0 = .ok (.aload_n 0, 1) := by decide +kernel
theorem dX8_thrown_1 : decode cX8_thrown 1 = .ok (.getfield 82, 3) := by decide +kernel
theorem dX8_thrown_4 : decode cX8_thrown 4 = .ok (.ireturn, 1) := by decide +kernel
theorem dX8_fails_0 : decode cX8_fails 0 = .ok (.aload_n 0, 1) := by decide +kernel
theorem dX8_fails_1 : decode cX8_fails 1 = .ok (.iload_n 1, 1) := by decide +kernel
theorem dX8_fails_2 : decode cX8_fails 2 = .ok (.putfield 82, 3) := by decide +kernel
theorem dX8_fails_5 : decode cX8_fails 5 = .ok (.iconst 0, 1) := by decide +kernel
theorem dX8_fails_6 : decode cX8_fails 6 = .ok (.ireturn, 1) := by decide +kernel
theorem dX8_in_0 : decode cX8_in 0 = .ok (.iload_n 0, 1) := by decide +kernel
theorem dX8_in_1 : decode cX8_in 1 = .ok (.iload_n 1, 1) := by decide +kernel
theorem dX8_in_2 : decode cX8_in 2 = .ok (.if_icmp .lt 12, 3) := by decide +kernel
theorem dX8_in_5 : decode cX8_in 5 = .ok (.iload_n 0, 1) := by decide +kernel
theorem dX8_in_6 : decode cX8_in 6 = .ok (.iload_n 2, 1) := by decide +kernel
theorem dX8_in_7 : decode cX8_in 7 = .ok (.if_icmp .gt 7, 3) := by decide +kernel
theorem dX8_in_10 : decode cX8_in 10 = .ok (.iconst 1, 1) := by decide +kernel
theorem dX8_in_11 : decode cX8_in 11 = .ok (.goto 4, 3) := by decide +kernel
theorem dX8_in_14 : decode cX8_in 14 = .ok (.iconst 0, 1) := by decide +kernel
theorem dX8_in_15 : decode cX8_in 15 = .ok (.ireturn, 1) := by decide +kernel
theorem dX8_isBakery_0 : decode cX8_isBakery 0 = .ok (.iload_n 0, 1) := by decide +kernel
theorem dX8_isBakery_1 : decode cX8_isBakery 1 = .ok (.iconst 0, 1) := by decide +kernel
theorem dX8_isBakery_2 : decode cX8_isBakery 2 = .ok (.iconst 4, 1) := by decide +kernel
theorem dX8_isBakery_3 : decode cX8_isBakery 3 = .ok (.invokestatic 86, 3) := by decide +kernel
theorem dX8_isBakery_6 : decode cX8_isBakery 6 = .ok (.ireturn, 1) := by decide +kernel
theorem dX8_areTogether_0 : decode cX8_areTogether 0 = .ok (.aload_n 0, 1) := by decide +kernel
theorem dX8_areTogether_1 : decode cX8_areTogether 1 = .ok (.getfield 90, 3) := by decide +kernel
theorem dX8_areTogether_4 : decode cX8_areTogether 4 = .ok (.iload_n 1, 1) := by decide +kernel
theorem dX8_areTogether_5 : decode cX8_areTogether 5 = .ok (.ishr, 1) := by decide +kernel
theorem dX8_areTogether_6 : decode cX8_areTogether 6 = .ok (.iconst 1, 1) := by decide +kernel
theorem dX8_areTogether_7 : decode cX8_areTogether 7 = .ok (.iand, 1) := by decide +kernel
theorem dX8_areTogether_8 : decode cX8_areTogether 8 = .ok (.aload_n 0, 1) := by decide +kernel
theorem dX8_areTogether_9 : decode cX8_areTogether 9 = .ok (.getfield 90, 3) := by decide +kernel
theorem dX8_areTogether_12 : decode cX8_areTogether 12 = .ok (.iload_n 2, 1) := by decide +kernel
theorem dX8_areTogether_13 : decode cX8_areTogether 13 = .ok (.ishr, 1) := by decide +kernel
theorem dX8_areTogether_14 : decode cX8_areTogether 14 = .ok (.iconst 1, 1) := by decide +kernel
theorem dX8_areTogether_15 : decode cX8_areTogether 15 = .ok (.iand, 1) := by decide +kernel
theorem dX8_areTogether_16 : decode cX8_areTogether 16 = .ok (.if_icmp .ne 7, 3) := by decide +kernel
theorem dX8_areTogether_19 : decode cX8_areTogether 19 = .ok (.iconst 1, 1) := by decide +kernel
theorem dX8_areTogether_20 : decode cX8_areTogether 20 = .ok (.goto 4, 3) := by decide +kernel
theorem dX8_areTogether_23 : decode cX8_areTogether 23 = .ok (.iconst 0, 1) := by decide +kernel
theorem dX8_areTogether_24 : decode cX8_areTogether 24 = .ok (.ireturn, 1) := by decide +kernel
theorem dX8_part_0 : decode cX8_part 0 = .ok (.aload_n 0, 1) := by decide +kernel
theorem dX8_part_1 : decode cX8_part 1 = .ok (.iload_n 1, 1) := by decide +kernel
theorem dX8_part_2 : decode cX8_part 2 = .ok (.iconst 0, 1) := by decide +kernel
theorem dX8_part_3 : decode cX8_part 3 = .ok (.bipush 31, 2) := by decide +kernel
theorem dX8_part_5 : decode cX8_part 5 = .ok (.invokestatic 86, 3) := by decide +kernel
theorem dX8_part_8 : decode cX8_part 8 = .ok (.ifCond .eq 7, 3) := by decide +kernel
theorem dX8_part_11 : decode cX8_part 11 = .ok (.iconst 0, 1) := by decide +kernel
theorem dX8_part_12 : decode cX8_part 12 = .ok (.goto 4, 3) := by decide +kernel
theorem dX8_part_15 : decode cX8_part 15 = .ok (.iconst 1, 1) := by decide +kernel
theorem dX8_part_16 : decode cX8_part 16 = .ok (.putfield 82, 3) := by decide +kernel
theorem dX8_part_19 : decode cX8_part 19 = .ok (.aload_n 0, 1) := by decide +kernel
theorem dX8_part_20 : decode cX8_part 20 = .ok (.getfield 82, 3) := by decide +kernel
theorem dX8_part_23 : decode cX8_part 23 = .ok (.ifCond .le 5, 3) := by decide +kernel
theorem dX8_part_26 : decode cX8_part 26 = .ok (.iconst 0, 1) := by decide +kernel
theorem dX8_part_27 : decode cX8_part 27 = .ok (.ireturn, 1) := by decide +kernel
theorem dX8_part_28 : decode cX8_part 28 = .ok (.aload_n 0, 1) := by decide +kernel
theorem dX8_part_29 : decode cX8_part 29 = .ok (.iload_n 1, 1) := by decide +kernel
theorem dX8_part_30 : decode cX8_part 30 = .ok (.putfield 90, 3) := by decide +kernel
theorem dX8_part_33 : decode cX8_part 33 = .ok (.iconst 0, 1) := by decide +kernel
theorem dX8_part_34 : decode cX8_part 34 = .ok (.istore_n 2, 1) := by decide +kernel
theorem dX8_part_35 : decode cX8_part 35 = .ok (.iconst 0, 1) := by decide +kernel
theorem dX8_part_36 : decode cX8_part 36 = .ok (.istore_n 3, 1) := by decide +kernel
theorem dX8_part_37 : decode cX8_part 37 = .ok (.iload_n 3, 1) := by decide +kernel
theorem dX8_part_38 : decode cX8_part 38 = .ok (.iconst 5, 1) := by decide +kernel
theorem dX8_part_39 : decode cX8_part 39 = .ok (.if_icmp .ge 17, 3) := by decide +kernel
theorem dX8_part_42 : decode cX8_part 42 = .ok (.iload_n 2, 1) := by decide +kernel
theorem dX8_part_43 : decode cX8_part 43 = .ok (.iload_n 1, 1) := by decide +kernel
theorem dX8_part_44 : decode cX8_part 44 = .ok (.iload_n 3, 1) := by decide +kernel
theorem dX8_part_45 : decode cX8_part 45 = .ok (.ishr, 1) := by decide +kernel
theorem dX8_part_46 : decode cX8_part 46 = .ok (.iconst 1, 1) := by decide +kernel
theorem dX8_part_47 : decode cX8_part 47 = .ok (.iand, 1) := by decide +kernel
theorem dX8_part_48 : decode cX8_part 48 = .ok (.iadd, 1) := by decide +kernel
theorem dX8_part_49 : decode cX8_part 49 = .ok (.istore_n 2, 1) := by decide +kernel
theorem dX8_part_50 : decode cX8_part 50 = .ok (.iinc 3 1, 3) := by decide +kernel
theorem dX8_part_53 : decode cX8_part 53 = .ok (.goto (-16), 3) := by decide +kernel
theorem dX8_part_56 : decode cX8_part 56 = .ok (.iload_n 2, 1) := by decide +kernel
theorem dX8_part_57 : decode cX8_part 57 = .ok (.iconst 5, 1) := by decide +kernel
theorem dX8_part_58 : decode cX8_part 58 = .ok (.iload_n 2, 1) := by decide +kernel
theorem dX8_part_59 : decode cX8_part 59 = .ok (.isub, 1) := by decide +kernel
theorem dX8_part_60 : decode cX8_part 60 = .ok (.imul, 1) := by decide +kernel
theorem dX8_part_61 : decode cX8_part 61 = .ok (.ireturn, 1) := by decide +kernel
theorem dX8_takes_0 : decode cX8_takes 0 = .ok (.aload_n 0, 1) := by decide +kernel
theorem dX8_takes_1 : decode cX8_takes 1 = .ok (.getfield 7, 3) := by decide +kernel
theorem dX8_takes_4 : decode cX8_takes 4 = .ok (.iload_n 1, 1) := by decide +kernel
theorem dX8_takes_5 : decode cX8_takes 5 = .ok (.iload_n 2, 1) := by decide +kernel
theorem dX8_takes_6 : decode cX8_takes 6 = .ok (.iastore, 1) := by decide +kernel
theorem dX8_takes_7 : decode cX8_takes 7 = .ok (.aload_n 0, 1) := by decide +kernel
theorem dX8_takes_8 : decode cX8_takes 8 = .ok (.getfield 13, 3) := by decide +kernel
theorem dX8_takes_11 : decode cX8_takes 11 = .ok (.iload_n 1, 1) := by decide +kernel
theorem dX8_takes_12 : decode cX8_takes 12 = .ok (.iconst 0, 1) := by decide +kernel
theorem dX8_takes_13 : decode cX8_takes 13 = .ok (.iastore, 1) := by decide +kernel
theorem dX8_takes_14 : decode cX8_takes 14 = .ok (.aload_n 0, 1) := by decide +kernel
theorem dX8_takes_15 : decode cX8_takes 15 = .ok (.getfield 16, 3) := by decide +kernel
theorem dX8_takes_18 : decode cX8_takes 18 = .ok (.iload_n 1, 1) := by decide +kernel
theorem dX8_takes_19 : decode cX8_takes 19 = .ok (.iconst 0, 1) := by decide +kernel
theorem dX8_takes_20 : decode cX8_takes 20 = .ok (.iastore, 1) := by decide +kernel
theorem dX8_takes_21 : decode cX8_takes 21 = .ok (.aload_n 0, 1) := by decide +kernel
theorem dX8_takes_22 : decode cX8_takes 22 = .ok (.getfield 19, 3) := by decide +kernel
theorem dX8_takes_25 : decode cX8_takes 25 = .ok (.iload_n 1, 1) := by decide +kernel
theorem dX8_takes_26 : decode cX8_takes 26 = .ok (.iconst 0, 1) := by decide +kernel
theorem dX8_takes_27 : decode cX8_takes 27 = .ok (.iastore, 1) := by decide +kernel
theorem dX8_takes_28 : decode cX8_takes 28 = .ok (.return_, 1) := by decide +kernel
theorem dX8_stand_0 : decode cX8_stand 0 = .ok (.aload_n 0, 1) := by decide +kernel
theorem dX8_stand_1 : decode cX8_stand 1 = .ok (.iload_n 1, 1) := by decide +kernel
theorem dX8_stand_2 : decode cX8_stand 2 = .ok (.invokestatic 93, 3) := by decide +kernel
theorem dX8_stand_5 : decode cX8_stand 5 = .ok (.ifCond .ne 7, 3) := by decide +kernel
theorem dX8_stand_8 : decode cX8_stand 8 = .ok (.iconst 1, 1) := by decide +kernel
theorem dX8_stand_9 : decode cX8_stand 9 = .ok (.goto 19, 3) := by decide +kernel
theorem dX8_stand_12 : decode cX8_stand 12 = .ok (.aload_n 0, 1) := by decide +kernel
theorem dX8_stand_13 : decode cX8_stand 13 = .ok (.getfield 7, 3) := by decide +kernel
theorem dX8_stand_16 : decode cX8_stand 16 = .ok (.iload_n 1, 1) := by decide +kernel
theorem dX8_stand_17 : decode cX8_stand 17 = .ok (.iaload, 1) := by decide +kernel
theorem dX8_stand_18 : decode cX8_stand 18 = .ok (.bipush 100, 2) := by decide +kernel
theorem dX8_stand_20 : decode cX8_stand 20 = .ok (.if_icmp .ne 7, 3) := by decide +kernel
theorem dX8_stand_23 : decode cX8_stand 23 = .ok (.iconst 2, 1) := by decide +kernel
theorem dX8_stand_24 : decode cX8_stand 24 = .ok (.goto 4, 3) := by decide +kernel
theorem dX8_stand_27 : decode cX8_stand 27 = .ok (.iconst 0, 1) := by decide +kernel
theorem dX8_stand_28 : decode cX8_stand 28 = .ok (.putfield 82, 3) := by decide +kernel
theorem dX8_stand_31 : decode cX8_stand 31 = .ok (.aload_n 0, 1) := by decide +kernel
theorem dX8_stand_32 : decode cX8_stand 32 = .ok (.getfield 82, 3) := by decide +kernel
theorem dX8_stand_35 : decode cX8_stand 35 = .ok (.ifCond .le 5, 3) := by decide +kernel
theorem dX8_stand_38 : decode cX8_stand 38 = .ok (.iconst 0, 1) := by decide +kernel
theorem dX8_stand_39 : decode cX8_stand 39 = .ok (.ireturn, 1) := by decide +kernel
theorem dX8_stand_40 : decode cX8_stand 40 = .ok (.aload_n 0, 1) := by decide +kernel
theorem dX8_stand_41 : decode cX8_stand 41 = .ok (.iload_n 1, 1) := by decide +kernel
theorem dX8_stand_42 : decode cX8_stand 42 = .ok (.aload_n 0, 1) := by decide +kernel
theorem dX8_stand_43 : decode cX8_stand 43 = .ok (.getfield 7, 3) := by decide +kernel
theorem dX8_stand_46 : decode cX8_stand 46 = .ok (.iload_n 1, 1) := by decide +kernel
theorem dX8_stand_47 : decode cX8_stand 47 = .ok (.iaload, 1) := by decide +kernel
theorem dX8_stand_48 : decode cX8_stand 48 = .ok (.iconst 1, 1) := by decide +kernel
theorem dX8_stand_49 : decode cX8_stand 49 = .ok (.iadd, 1) := by decide +kernel
theorem dX8_stand_50 : decode cX8_stand 50 = .ok (.invokevirtual 97, 3) := by decide +kernel
theorem dX8_stand_53 : decode cX8_stand 53 = .ok (.aload_n 0, 1) := by decide +kernel
theorem dX8_stand_54 : decode cX8_stand 54 = .ok (.getfield 13, 3) := by decide +kernel
theorem dX8_stand_57 : decode cX8_stand 57 = .ok (.iload_n 1, 1) := by decide +kernel
theorem dX8_stand_58 : decode cX8_stand 58 = .ok (.iconst 1, 1) := by decide +kernel
theorem dX8_stand_59 : decode cX8_stand 59 = .ok (.iastore, 1) := by decide +kernel
theorem dX8_stand_60 : decode cX8_stand 60 = .ok (.aload_n 0, 1) := by decide +kernel
theorem dX8_stand_61 : decode cX8_stand 61 = .ok (.getfield 16, 3) := by decide +kernel
theorem dX8_stand_64 : decode cX8_stand 64 = .ok (.iload_n 1, 1) := by decide +kernel
theorem dX8_stand_65 : decode cX8_stand 65 = .ok (.iload_n 1, 1) := by decide +kernel
theorem dX8_stand_66 : decode cX8_stand 66 = .ok (.iconst 1, 1) := by decide +kernel
theorem dX8_stand_67 : decode cX8_stand 67 = .ok (.iadd, 1) := by decide +kernel
theorem dX8_stand_68 : decode cX8_stand 68 = .ok (.iastore, 1) := by decide +kernel
theorem dX8_stand_69 : decode cX8_stand 69 = .ok (.aload_n 0, 1) := by decide +kernel
theorem dX8_stand_70 : decode cX8_stand 70 = .ok (.getfield 19, 3) := by decide +kernel
theorem dX8_stand_73 : decode cX8_stand 73 = .ok (.iload_n 1, 1) := by decide +kernel
theorem dX8_stand_74 : decode cX8_stand 74 = .ok (.iconst 1, 1) := by decide +kernel
theorem dX8_stand_75 : decode cX8_stand 75 = .ok (.iload_n 1, 1) := by decide +kernel
theorem dX8_stand_76 : decode cX8_stand 76 = .ok (.ishl, 1) := by decide +kernel
theorem dX8_stand_77 : decode cX8_stand 77 = .ok (.iastore, 1) := by decide +kernel
theorem dX8_stand_78 : decode cX8_stand 78 = .ok (.aload_n 0, 1) := by decide +kernel
theorem dX8_stand_79 : decode cX8_stand 79 = .ok (.getfield 7, 3) := by decide +kernel
theorem dX8_stand_82 : decode cX8_stand 82 = .ok (.iload_n 1, 1) := by decide +kernel
theorem dX8_stand_83 : decode cX8_stand 83 = .ok (.iaload, 1) := by decide +kernel
theorem dX8_stand_84 : decode cX8_stand 84 = .ok (.ireturn, 1) := by decide +kernel
theorem dX8_lastTerm_0 : decode cX8_lastTerm 0 = .ok (.aload_n 0, 1) := by decide +kernel
theorem dX8_lastTerm_1 : decode cX8_lastTerm 1 = .ok (.getfield 25, 3) := by decide +kernel
theorem dX8_lastTerm_4 : decode cX8_lastTerm 4 = .ok (.iload_n 1, 1) := by decide +kernel
theorem dX8_lastTerm_5 : decode cX8_lastTerm 5 = .ok (.iaload, 1) := by decide +kernel
theorem dX8_lastTerm_6 : decode cX8_lastTerm 6 = .ok (.ifCond .ne 7, 3) := by decide +kernel
theorem dX8_lastTerm_9 : decode cX8_lastTerm 9 = .ok (.iconst (-1), 1) := by decide +kernel
theorem dX8_lastTerm_10 : decode cX8_lastTerm 10 = .ok (.goto 26, 3) := by decide +kernel
theorem dX8_lastTerm_13 : decode cX8_lastTerm 13 = .ok (.aload_n 0, 1) := by decide +kernel
theorem dX8_lastTerm_14 : decode cX8_lastTerm 14 = .ok (.getfield 28, 3) := by decide +kernel
theorem dX8_lastTerm_17 : decode cX8_lastTerm 17 = .ok (.aload_n 0, 1) := by decide +kernel
theorem dX8_lastTerm_18 : decode cX8_lastTerm 18 = .ok (.getfield 22, 3) := by decide +kernel
theorem dX8_lastTerm_21 : decode cX8_lastTerm 21 = .ok (.bipush 20, 2) := by decide +kernel
theorem dX8_lastTerm_23 : decode cX8_lastTerm 23 = .ok (.iload_n 1, 1) := by decide +kernel
theorem dX8_lastTerm_24 : decode cX8_lastTerm 24 = .ok (.imul, 1) := by decide +kernel
theorem dX8_lastTerm_25 : decode cX8_lastTerm 25 = .ok (.aload_n 0, 1) := by decide +kernel
theorem dX8_lastTerm_26 : decode cX8_lastTerm 26 = .ok (.getfield 25, 3) := by decide +kernel
theorem dX8_lastTerm_29 : decode cX8_lastTerm 29 = .ok (.iload_n 1, 1) := by decide +kernel
theorem dX8_lastTerm_30 : decode cX8_lastTerm 30 = .ok (.iaload, 1) := by decide +kernel
theorem dX8_lastTerm_31 : decode cX8_lastTerm 31 = .ok (.iadd, 1) := by decide +kernel
theorem dX8_lastTerm_32 : decode cX8_lastTerm 32 = .ok (.iconst 1, 1) := by decide +kernel
theorem dX8_lastTerm_33 : decode cX8_lastTerm 33 = .ok (.isub, 1) := by decide +kernel
theorem dX8_lastTerm_34 : decode cX8_lastTerm 34 = .ok (.iaload, 1) := by decide +kernel
theorem dX8_lastTerm_35 : decode cX8_lastTerm 35 = .ok (.iaload, 1) := by decide +kernel
theorem dX8_lastTerm_36 : decode cX8_lastTerm 36 = .ok (.ireturn, 1) := by decide +kernel
theorem dX8_isBetter_0 : decode cX8_isBetter 0 = .ok (.aload_n 0, 1) := by decide +kernel
theorem dX8_isBetter_1 : decode cX8_isBetter 1 = .ok (.iload_n 1, 1) := by decide +kernel
theorem dX8_isBetter_2 : decode cX8_isBetter 2 = .ok (.invokevirtual 101, 3) := by decide +kernel
theorem dX8_isBetter_5 : decode cX8_isBetter 5 = .ok (.aload_n 0, 1) := by decide +kernel
theorem dX8_isBetter_6 : decode cX8_isBetter 6 = .ok (.iload_n 2, 1) := by decide +kernel
theorem dX8_isBetter_7 : decode cX8_isBetter 7 = .ok (.invokevirtual 101, 3) := by decide +kernel
theorem dX8_isBetter_10 : decode cX8_isBetter 10 = .ok (.isub, 1) := by decide +kernel
theorem dX8_isBetter_11 : decode cX8_isBetter 11 = .ok (.istore_n 3, 1) := by decide +kernel
theorem dX8_isBetter_12 : decode cX8_isBetter 12 = .ok (.iload_n 3, 1) := by decide +kernel
theorem dX8_isBetter_13 : decode cX8_isBetter 13 = .ok (.ifCond .gt 22, 3) := by decide +kernel
theorem dX8_isBetter_16 : decode cX8_isBetter 16 = .ok (.iload_n 3, 1) := by decide +kernel
theorem dX8_isBetter_17 : decode cX8_isBetter 17 = .ok (.ifCond .ne 22, 3) := by decide +kernel
theorem dX8_isBetter_20 : decode cX8_isBetter 20 = .ok (.aload_n 0, 1) := by decide +kernel
theorem dX8_isBetter_21 : decode cX8_isBetter 21 = .ok (.getfield 25, 3) := by decide +kernel
theorem dX8_isBetter_24 : decode cX8_isBetter 24 = .ok (.iload_n 1, 1) := by decide +kernel
theorem dX8_isBetter_25 : decode cX8_isBetter 25 = .ok (.iaload, 1) := by decide +kernel
theorem dX8_isBetter_26 : decode cX8_isBetter 26 = .ok (.aload_n 0, 1) := by decide +kernel
theorem dX8_isBetter_27 : decode cX8_isBetter 27 = .ok (.getfield 25, 3) := by decide +kernel
theorem dX8_isBetter_30 : decode cX8_isBetter 30 = .ok (.iload_n 2, 1) := by decide +kernel
theorem dX8_isBetter_31 : decode cX8_isBetter 31 = .ok (.iaload, 1) := by decide +kernel
theorem dX8_isBetter_32 : decode cX8_isBetter 32 = .ok (.if_icmp .le 7, 3) := by decide +kernel
theorem dX8_isBetter_35 : decode cX8_isBetter 35 = .ok (.iconst 1, 1) := by decide +kernel
theorem dX8_isBetter_36 : decode cX8_isBetter 36 = .ok (.goto 4, 3) := by decide +kernel
theorem dX8_isBetter_39 : decode cX8_isBetter 39 = .ok (.iconst 0, 1) := by decide +kernel
theorem dX8_isBetter_40 : decode cX8_isBetter 40 = .ok (.ireturn, 1) := by decide +kernel
theorem dX8_reachCheck_0 : decode cX8_reachCheck 0 = .ok (.iload_n 1, 1) := by decide +kernel
theorem dX8_reachCheck_1 : decode cX8_reachCheck 1 = .ok (.invokestatic 93, 3) := by decide +kernel
theorem dX8_reachCheck_4 : decode cX8_reachCheck 4 = .ok (.ifCond .eq 10, 3) := by decide +kernel
theorem dX8_reachCheck_7 : decode cX8_reachCheck 7 = .ok (.iload_n 2, 1) := by decide +kernel
theorem dX8_reachCheck_8 : decode cX8_reachCheck 8 = .ok (.invokestatic 93, 3) := by decide +kernel
theorem dX8_reachCheck_11 : decode cX8_reachCheck 11 = .ok (.ifCond .ne 7, 3) := by decide +kernel
theorem dX8_reachCheck_14 : decode cX8_reachCheck 14 = .ok (.iconst 1, 1) := by decide +kernel
theorem dX8_reachCheck_15 : decode cX8_reachCheck 15 = .ok (.goto 36, 3) := by decide +kernel
theorem dX8_reachCheck_18 : decode cX8_reachCheck 18 = .ok (.iload_n 1, 1) := by decide +kernel
theorem dX8_reachCheck_19 : decode cX8_reachCheck 19 = .ok (.iload_n 2, 1) := by decide +kernel
theorem dX8_reachCheck_20 : decode cX8_reachCheck 20 = .ok (.if_icmp .ne 7, 3) := by decide +kernel
theorem dX8_reachCheck_23 : decode cX8_reachCheck 23 = .ok (.iconst 2, 1) := by decide +kernel
theorem dX8_reachCheck_24 : decode cX8_reachCheck 24 = .ok (.goto 27, 3) := by decide +kernel
theorem dX8_reachCheck_27 : decode cX8_reachCheck 27 = .ok (.aload_n 0, 1) := by decide +kernel
theorem dX8_reachCheck_28 : decode cX8_reachCheck 28 = .ok (.getfield 13, 3) := by decide +kernel
theorem dX8_reachCheck_31 : decode cX8_reachCheck 31 = .ok (.iload_n 1, 1) := by decide +kernel
theorem dX8_reachCheck_32 : decode cX8_reachCheck 32 = .ok (.iaload, 1) := by decide +kernel
theorem dX8_reachCheck_33 : decode cX8_reachCheck 33 = .ok (.iload_n 3, 1) := by decide +kernel
theorem dX8_reachCheck_34 : decode cX8_reachCheck 34 = .ok (.if_icmp .ne 12, 3) := by decide +kernel
theorem dX8_reachCheck_37 : decode cX8_reachCheck 37 = .ok (.aload_n 0, 1) := by decide +kernel
theorem dX8_reachCheck_38 : decode cX8_reachCheck 38 = .ok (.iload_n 1, 1) := by decide +kernel
theorem dX8_reachCheck_39 : decode cX8_reachCheck 39 = .ok (.iload_n 2, 1) := by decide +kernel
theorem dX8_reachCheck_40 : decode cX8_reachCheck 40 = .ok (.invokevirtual 105, 3) := by decide +kernel
theorem dX8_reachCheck_43 : decode cX8_reachCheck 43 = .ok (.ifCond .ne 7, 3) := by decide +kernel
theorem dX8_reachCheck_46 : decode cX8_reachCheck 46 = .ok (.iconst 3, 1) := by decide +kernel
theorem dX8_reachCheck_47 : decode cX8_reachCheck 47 = .ok (.goto 4, 3) := by decide +kernel
theorem dX8_reachCheck_50 : decode cX8_reachCheck 50 = .ok (.iconst 0, 1) := by decide +kernel
theorem dX8_reachCheck_51 : decode cX8_reachCheck 51 = .ok (.ireturn, 1) := by decide +kernel
theorem dX8_vote_0 : decode cX8_vote 0 = .ok (.aload_n 0, 1) := by decide +kernel
theorem dX8_vote_1 : decode cX8_vote 1 = .ok (.aload_n 0, 1) := by decide +kernel
theorem dX8_vote_2 : decode cX8_vote 2 = .ok (.iload_n 2, 1) := by decide +kernel
theorem dX8_vote_3 : decode cX8_vote 3 = .ok (.iload_n 1, 1) := by decide +kernel
theorem dX8_vote_4 : decode cX8_vote 4 = .ok (.iconst 1, 1) := by decide +kernel
theorem dX8_vote_5 : decode cX8_vote 5 = .ok (.invokevirtual 109, 3) := by decide +kernel
theorem dX8_vote_8 : decode cX8_vote 8 = .ok (.putfield 82, 3) := by decide +kernel
theorem dX8_vote_11 : decode cX8_vote 11 = .ok (.aload_n 0, 1) := by decide +kernel
theorem dX8_vote_12 : decode cX8_vote 12 = .ok (.getfield 82, 3) := by decide +kernel
theorem dX8_vote_15 : decode cX8_vote 15 = .ok (.ifCond .le 5, 3) := by decide +kernel
theorem dX8_vote_18 : decode cX8_vote 18 = .ok (.iconst 0, 1) := by decide +kernel
theorem dX8_vote_19 : decode cX8_vote 19 = .ok (.ireturn, 1) := by decide +kernel
theorem dX8_vote_20 : decode cX8_vote 20 = .ok (.aload_n 0, 1) := by decide +kernel
theorem dX8_vote_21 : decode cX8_vote 21 = .ok (.getfield 7, 3) := by decide +kernel
theorem dX8_vote_24 : decode cX8_vote 24 = .ok (.iload_n 1, 1) := by decide +kernel
theorem dX8_vote_25 : decode cX8_vote 25 = .ok (.iaload, 1) := by decide +kernel
theorem dX8_vote_26 : decode cX8_vote 26 = .ok (.aload_n 0, 1) := by decide +kernel
theorem dX8_vote_27 : decode cX8_vote 27 = .ok (.getfield 7, 3) := by decide +kernel
theorem dX8_vote_30 : decode cX8_vote 30 = .ok (.iload_n 2, 1) := by decide +kernel
theorem dX8_vote_31 : decode cX8_vote 31 = .ok (.iaload, 1) := by decide +kernel
theorem dX8_vote_32 : decode cX8_vote 32 = .ok (.if_icmp .le 16, 3) := by decide +kernel
theorem dX8_vote_35 : decode cX8_vote 35 = .ok (.aload_n 0, 1) := by decide +kernel
theorem dX8_vote_36 : decode cX8_vote 36 = .ok (.iload_n 2, 1) := by decide +kernel
theorem dX8_vote_37 : decode cX8_vote 37 = .ok (.aload_n 0, 1) := by decide +kernel
theorem dX8_vote_38 : decode cX8_vote 38 = .ok (.getfield 7, 3) := by decide +kernel
theorem dX8_vote_41 : decode cX8_vote 41 = .ok (.iload_n 1, 1) := by decide +kernel
theorem dX8_vote_42 : decode cX8_vote 42 = .ok (.iaload, 1) := by decide +kernel
theorem dX8_vote_43 : decode cX8_vote 43 = .ok (.invokevirtual 97, 3) := by decide +kernel
theorem dX8_vote_46 : decode cX8_vote 46 = .ok (.iconst 0, 1) := by decide +kernel
theorem dX8_vote_47 : decode cX8_vote 47 = .ok (.ireturn, 1) := by decide +kernel
theorem dX8_vote_48 : decode cX8_vote 48 = .ok (.aload_n 0, 1) := by decide +kernel
theorem dX8_vote_49 : decode cX8_vote 49 = .ok (.getfield 7, 3) := by decide +kernel
theorem dX8_vote_52 : decode cX8_vote 52 = .ok (.iload_n 1, 1) := by decide +kernel
theorem dX8_vote_53 : decode cX8_vote 53 = .ok (.iaload, 1) := by decide +kernel
theorem dX8_vote_54 : decode cX8_vote 54 = .ok (.aload_n 0, 1) := by decide +kernel
theorem dX8_vote_55 : decode cX8_vote 55 = .ok (.getfield 7, 3) := by decide +kernel
theorem dX8_vote_58 : decode cX8_vote 58 = .ok (.iload_n 2, 1) := by decide +kernel
theorem dX8_vote_59 : decode cX8_vote 59 = .ok (.iaload, 1) := by decide +kernel
theorem dX8_vote_60 : decode cX8_vote 60 = .ok (.if_icmp .ge 14, 3) := by decide +kernel
theorem dX8_vote_63 : decode cX8_vote 63 = .ok (.aload_n 0, 1) := by decide +kernel
theorem dX8_vote_64 : decode cX8_vote 64 = .ok (.iload_n 1, 1) := by decide +kernel
theorem dX8_vote_65 : decode cX8_vote 65 = .ok (.aload_n 0, 1) := by decide +kernel
theorem dX8_vote_66 : decode cX8_vote 66 = .ok (.getfield 7, 3) := by decide +kernel
theorem dX8_vote_69 : decode cX8_vote 69 = .ok (.iload_n 2, 1) := by decide +kernel
theorem dX8_vote_70 : decode cX8_vote 70 = .ok (.iaload, 1) := by decide +kernel
theorem dX8_vote_71 : decode cX8_vote 71 = .ok (.invokevirtual 97, 3) := by decide +kernel
theorem dX8_vote_74 : decode cX8_vote 74 = .ok (.aload_n 0, 1) := by decide +kernel
theorem dX8_vote_75 : decode cX8_vote 75 = .ok (.getfield 16, 3) := by decide +kernel
theorem dX8_vote_78 : decode cX8_vote 78 = .ok (.iload_n 1, 1) := by decide +kernel
theorem dX8_vote_79 : decode cX8_vote 79 = .ok (.iaload, 1) := by decide +kernel
theorem dX8_vote_80 : decode cX8_vote 80 = .ok (.ifCond .ne 33, 3) := by decide +kernel
theorem dX8_vote_83 : decode cX8_vote 83 = .ok (.aload_n 0, 1) := by decide +kernel
theorem dX8_vote_84 : decode cX8_vote 84 = .ok (.iload_n 1, 1) := by decide +kernel
theorem dX8_vote_85 : decode cX8_vote 85 = .ok (.iload_n 2, 1) := by decide +kernel
theorem dX8_vote_86 : decode cX8_vote 86 = .ok (.invokevirtual 113, 3) := by decide +kernel
theorem dX8_vote_89 : decode cX8_vote 89 = .ok (.ifCond .ne 24, 3) := by decide +kernel
theorem dX8_vote_92 : decode cX8_vote 92 = .ok (.aload_n 0, 1) := by decide +kernel
theorem dX8_vote_93 : decode cX8_vote 93 = .ok (.getfield 16, 3) := by decide +kernel
theorem dX8_vote_96 : decode cX8_vote 96 = .ok (.iload_n 1, 1) := by decide +kernel
theorem dX8_vote_97 : decode cX8_vote 97 = .ok (.iload_n 2, 1) := by decide +kernel
theorem dX8_vote_98 : decode cX8_vote 98 = .ok (.iconst 1, 1) := by decide +kernel
theorem dX8_vote_99 : decode cX8_vote 99 = .ok (.iadd, 1) := by decide +kernel
theorem dX8_vote_100 : decode cX8_vote 100 = .ok (.iastore, 1) := by decide +kernel
theorem dX8_vote_101 : decode cX8_vote 101 = .ok (.aload_n 0, 1) := by decide +kernel
theorem dX8_vote_102 : decode cX8_vote 102 = .ok (.getfield 19, 3) := by decide +kernel
theorem dX8_vote_105 : decode cX8_vote 105 = .ok (.iload_n 2, 1) := by decide +kernel
theorem dX8_vote_106 : decode cX8_vote 106 = .ok (.dup2, 1) := by decide +kernel
theorem dX8_vote_107 : decode cX8_vote 107 = .ok (.iaload, 1) := by decide +kernel
theorem dX8_vote_108 : decode cX8_vote 108 = .ok (.iconst 1, 1) := by decide +kernel
theorem dX8_vote_109 : decode cX8_vote 109 = .ok (.iload_n 1, 1) := by decide +kernel
theorem dX8_vote_110 : decode cX8_vote 110 = .ok (.ishl, 1) := by decide +kernel
theorem dX8_vote_111 : decode cX8_vote 111 = .ok (.ior, 1) := by decide +kernel
theorem dX8_vote_112 : decode cX8_vote 112 = .ok (.iastore, 1) := by decide +kernel
theorem dX8_vote_113 : decode cX8_vote 113 = .ok (.iconst 0, 1) := by decide +kernel
theorem dX8_vote_114 : decode cX8_vote 114 = .ok (.istore_n 3, 1) := by decide +kernel
theorem dX8_vote_115 : decode cX8_vote 115 = .ok (.iconst 0, 1) := by decide +kernel
theorem dX8_vote_116 : decode cX8_vote 116 = .ok (.istore 4, 2) := by decide +kernel
theorem dX8_vote_118 : decode cX8_vote 118 = .ok (.iload 4, 2) := by decide +kernel
theorem dX8_vote_120 : decode cX8_vote 120 = .ok (.iconst 5, 1) := by decide +kernel
theorem dX8_vote_121 : decode cX8_vote 121 = .ok (.if_icmp .ge 23, 3) := by decide +kernel
theorem dX8_vote_124 : decode cX8_vote 124 = .ok (.iload_n 3, 1) := by decide +kernel
theorem dX8_vote_125 : decode cX8_vote 125 = .ok (.aload_n 0, 1) := by decide +kernel
theorem dX8_vote_126 : decode cX8_vote 126 = .ok (.getfield 19, 3) := by decide +kernel
theorem dX8_vote_129 : decode cX8_vote 129 = .ok (.iload_n 2, 1) := by decide +kernel
theorem dX8_vote_130 : decode cX8_vote 130 = .ok (.iaload, 1) := by decide +kernel
theorem dX8_vote_131 : decode cX8_vote 131 = .ok (.iload 4, 2) := by decide +kernel
theorem dX8_vote_133 : decode cX8_vote 133 = .ok (.ishr, 1) := by decide +kernel
theorem dX8_vote_134 : decode cX8_vote 134 = .ok (.iconst 1, 1) := by decide +kernel
theorem dX8_vote_135 : decode cX8_vote 135 = .ok (.iand, 1) := by decide +kernel
theorem dX8_vote_136 : decode cX8_vote 136 = .ok (.iadd, 1) := by decide +kernel
theorem dX8_vote_137 : decode cX8_vote 137 = .ok (.istore_n 3, 1) := by decide +kernel
theorem dX8_vote_138 : decode cX8_vote 138 = .ok (.iinc 4 1, 3) := by decide +kernel
theorem dX8_vote_141 : decode cX8_vote 141 = .ok (.goto (-23), 3) := by decide +kernel
theorem dX8_vote_144 : decode cX8_vote 144 = .ok (.aload_n 0, 1) := by decide +kernel
theorem dX8_vote_145 : decode cX8_vote 145 = .ok (.getfield 13, 3) := by decide +kernel
theorem dX8_vote_148 : decode cX8_vote 148 = .ok (.iload_n 2, 1) := by decide +kernel
theorem dX8_vote_149 : decode cX8_vote 149 = .ok (.iload_n 3, 1) := by decide +kernel
theorem dX8_vote_150 : decode cX8_vote 150 = .ok (.iconst 3, 1) := by decide +kernel
theorem dX8_vote_151 : decode cX8_vote 151 = .ok (.if_icmp .lt 7, 3) := by decide +kernel
theorem dX8_vote_154 : decode cX8_vote 154 = .ok (.iconst 2, 1) := by decide +kernel
theorem dX8_vote_155 : decode cX8_vote 155 = .ok (.goto 4, 3) := by decide +kernel
theorem dX8_vote_158 : decode cX8_vote 158 = .ok (.iconst 1, 1) := by decide +kernel
theorem dX8_vote_159 : decode cX8_vote 159 = .ok (.iastore, 1) := by decide +kernel
theorem dX8_vote_160 : decode cX8_vote 160 = .ok (.aload_n 0, 1) := by decide +kernel
theorem dX8_vote_161 : decode cX8_vote 161 = .ok (.getfield 16, 3) := by decide +kernel
theorem dX8_vote_164 : decode cX8_vote 164 = .ok (.iload_n 1, 1) := by decide +kernel
theorem dX8_vote_165 : decode cX8_vote 165 = .ok (.iaload, 1) := by decide +kernel
theorem dX8_vote_166 : decode cX8_vote 166 = .ok (.iload_n 2, 1) := by decide +kernel
theorem dX8_vote_167 : decode cX8_vote 167 = .ok (.iconst 1, 1) := by decide +kernel
theorem dX8_vote_168 : decode cX8_vote 168 = .ok (.iadd, 1) := by decide +kernel
theorem dX8_vote_169 : decode cX8_vote 169 = .ok (.if_icmp .ne 7, 3) := by decide +kernel
theorem dX8_vote_172 : decode cX8_vote 172 = .ok (.iconst 1, 1) := by decide +kernel
theorem dX8_vote_173 : decode cX8_vote 173 = .ok (.goto 4, 3) := by decide +kernel
theorem dX8_vote_176 : decode cX8_vote 176 = .ok (.iconst 0, 1) := by decide +kernel
theorem dX8_vote_177 : decode cX8_vote 177 = .ok (.ireturn, 1) := by decide +kernel
theorem dX8_propose_0 : decode cX8_propose 0 = .ok (.aload_n 0, 1) := by decide +kernel
theorem dX8_propose_1 : decode cX8_propose 1 = .ok (.iload_n 1, 1) := by decide +kernel
theorem dX8_propose_2 : decode cX8_propose 2 = .ok (.invokestatic 93, 3) := by decide +kernel
theorem dX8_propose_5 : decode cX8_propose 5 = .ok (.ifCond .eq 12, 3) := by decide +kernel
theorem dX8_propose_8 : decode cX8_propose 8 = .ok (.iload_n 2, 1) := by decide +kernel
theorem dX8_propose_9 : decode cX8_propose 9 = .ok (.iconst 0, 1) := by decide +kernel
theorem dX8_propose_10 : decode cX8_propose 10 = .ok (.iconst 5, 1) := by decide +kernel
theorem dX8_propose_11 : decode cX8_propose 11 = .ok (.invokestatic 86, 3) := by decide +kernel
theorem dX8_propose_14 : decode cX8_propose 14 = .ok (.ifCond .ne 7, 3) := by decide +kernel
theorem dX8_propose_17 : decode cX8_propose 17 = .ok (.iconst 1, 1) := by decide +kernel
theorem dX8_propose_18 : decode cX8_propose 18 = .ok (.goto 63, 3) := by decide +kernel
theorem dX8_propose_21 : decode cX8_propose 21 = .ok (.iload_n 3, 1) := by decide +kernel
theorem dX8_propose_22 : decode cX8_propose 22 = .ok (.iconst 1, 1) := by decide +kernel
theorem dX8_propose_23 : decode cX8_propose 23 = .ok (.bipush 9, 2) := by decide +kernel
theorem dX8_propose_25 : decode cX8_propose 25 = .ok (.invokestatic 86, 3) := by decide +kernel
theorem dX8_propose_28 : decode cX8_propose 28 = .ok (.ifCond .eq 14, 3) := by decide +kernel
theorem dX8_propose_31 : decode cX8_propose 31 = .ok (.iload 4, 2) := by decide +kernel
theorem dX8_propose_33 : decode cX8_propose 33 = .ok (.iconst 1, 1) := by decide +kernel
theorem dX8_propose_34 : decode cX8_propose 34 = .ok (.bipush 40, 2) := by decide +kernel
theorem dX8_propose_36 : decode cX8_propose 36 = .ok (.invokestatic 86, 3) := by decide +kernel
theorem dX8_propose_39 : decode cX8_propose 39 = .ok (.ifCond .ne 7, 3) := by decide +kernel
theorem dX8_propose_42 : decode cX8_propose 42 = .ok (.iconst 2, 1) := by decide +kernel
theorem dX8_propose_43 : decode cX8_propose 43 = .ok (.goto 38, 3) := by decide +kernel
theorem dX8_propose_46 : decode cX8_propose 46 = .ok (.aload_n 0, 1) := by decide +kernel
theorem dX8_propose_47 : decode cX8_propose 47 = .ok (.getfield 13, 3) := by decide +kernel
theorem dX8_propose_50 : decode cX8_propose 50 = .ok (.iload_n 1, 1) := by decide +kernel
theorem dX8_propose_51 : decode cX8_propose 51 = .ok (.iaload, 1) := by decide +kernel
theorem dX8_propose_52 : decode cX8_propose 52 = .ok (.iconst 2, 1) := by decide +kernel
theorem dX8_propose_53 : decode cX8_propose 53 = .ok (.if_icmp .ne 23, 3) := by decide +kernel
theorem dX8_propose_56 : decode cX8_propose 56 = .ok (.aload_n 0, 1) := by decide +kernel
theorem dX8_propose_57 : decode cX8_propose 57 = .ok (.getfield 25, 3) := by decide +kernel
theorem dX8_propose_60 : decode cX8_propose 60 = .ok (.iload_n 1, 1) := by decide +kernel
theorem dX8_propose_61 : decode cX8_propose 61 = .ok (.iaload, 1) := by decide +kernel
theorem dX8_propose_62 : decode cX8_propose 62 = .ok (.bipush 20, 2) := by decide +kernel
theorem dX8_propose_64 : decode cX8_propose 64 = .ok (.if_icmp .eq 12, 3) := by decide +kernel
theorem dX8_propose_67 : decode cX8_propose 67 = .ok (.aload_n 0, 1) := by decide +kernel
theorem dX8_propose_68 : decode cX8_propose 68 = .ok (.getfield 116, 3) := by decide +kernel
theorem dX8_propose_71 : decode cX8_propose 71 = .ok (.bipush 60, 2) := by decide +kernel
theorem dX8_propose_73 : decode cX8_propose 73 = .ok (.if_icmp .ne 7, 3) := by decide +kernel
theorem dX8_propose_76 : decode cX8_propose 76 = .ok (.iconst 3, 1) := by decide +kernel
theorem dX8_propose_77 : decode cX8_propose 77 = .ok (.goto 4, 3) := by decide +kernel
theorem dX8_propose_80 : decode cX8_propose 80 = .ok (.iconst 0, 1) := by decide +kernel
theorem dX8_propose_81 : decode cX8_propose 81 = .ok (.putfield 82, 3) := by decide +kernel
theorem dX8_propose_84 : decode cX8_propose 84 = .ok (.aload_n 0, 1) := by decide +kernel
theorem dX8_propose_85 : decode cX8_propose 85 = .ok (.getfield 82, 3) := by decide +kernel
theorem dX8_propose_88 : decode cX8_propose 88 = .ok (.ifCond .le 5, 3) := by decide +kernel
theorem dX8_propose_91 : decode cX8_propose 91 = .ok (.iconst 0, 1) := by decide +kernel
theorem dX8_propose_92 : decode cX8_propose 92 = .ok (.ireturn, 1) := by decide +kernel
theorem dX8_propose_93 : decode cX8_propose 93 = .ok (.aload_n 0, 1) := by decide +kernel
theorem dX8_propose_94 : decode cX8_propose 94 = .ok (.getfield 28, 3) := by decide +kernel
theorem dX8_propose_97 : decode cX8_propose 97 = .ok (.aload_n 0, 1) := by decide +kernel
theorem dX8_propose_98 : decode cX8_propose 98 = .ok (.getfield 116, 3) := by decide +kernel
theorem dX8_propose_101 : decode cX8_propose 101 = .ok (.aload_n 0, 1) := by decide +kernel
theorem dX8_propose_102 : decode cX8_propose 102 = .ok (.getfield 7, 3) := by decide +kernel
theorem dX8_propose_105 : decode cX8_propose 105 = .ok (.iload_n 1, 1) := by decide +kernel
theorem dX8_propose_106 : decode cX8_propose 106 = .ok (.iaload, 1) := by decide +kernel
theorem dX8_propose_107 : decode cX8_propose 107 = .ok (.iastore, 1) := by decide +kernel
theorem dX8_propose_108 : decode cX8_propose 108 = .ok (.aload_n 0, 1) := by decide +kernel
theorem dX8_propose_109 : decode cX8_propose 109 = .ok (.getfield 31, 3) := by decide +kernel
theorem dX8_propose_112 : decode cX8_propose 112 = .ok (.aload_n 0, 1) := by decide +kernel
theorem dX8_propose_113 : decode cX8_propose 113 = .ok (.getfield 116, 3) := by decide +kernel
theorem dX8_propose_116 : decode cX8_propose 116 = .ok (.iload_n 2, 1) := by decide +kernel
theorem dX8_propose_117 : decode cX8_propose 117 = .ok (.iastore, 1) := by decide +kernel
theorem dX8_propose_118 : decode cX8_propose 118 = .ok (.aload_n 0, 1) := by decide +kernel
theorem dX8_propose_119 : decode cX8_propose 119 = .ok (.getfield 34, 3) := by decide +kernel
theorem dX8_propose_122 : decode cX8_propose 122 = .ok (.aload_n 0, 1) := by decide +kernel
theorem dX8_propose_123 : decode cX8_propose 123 = .ok (.getfield 116, 3) := by decide +kernel
theorem dX8_propose_126 : decode cX8_propose 126 = .ok (.iload_n 3, 1) := by decide +kernel
theorem dX8_propose_127 : decode cX8_propose 127 = .ok (.iastore, 1) := by decide +kernel
theorem dX8_propose_128 : decode cX8_propose 128 = .ok (.aload_n 0, 1) := by decide +kernel
theorem dX8_propose_129 : decode cX8_propose 129 = .ok (.getfield 37, 3) := by decide +kernel
theorem dX8_propose_132 : decode cX8_propose 132 = .ok (.aload_n 0, 1) := by decide +kernel
theorem dX8_propose_133 : decode cX8_propose 133 = .ok (.getfield 116, 3) := by decide +kernel
theorem dX8_propose_136 : decode cX8_propose 136 = .ok (.iload 4, 2) := by decide +kernel
theorem dX8_propose_138 : decode cX8_propose 138 = .ok (.iastore, 1) := by decide +kernel
theorem dX8_propose_139 : decode cX8_propose 139 = .ok (.aload_n 0, 1) := by decide +kernel
theorem dX8_propose_140 : decode cX8_propose 140 = .ok (.getfield 22, 3) := by decide +kernel
theorem dX8_propose_143 : decode cX8_propose 143 = .ok (.bipush 20, 2) := by decide +kernel
theorem dX8_propose_145 : decode cX8_propose 145 = .ok (.iload_n 1, 1) := by decide +kernel
theorem dX8_propose_146 : decode cX8_propose 146 = .ok (.imul, 1) := by decide +kernel
theorem dX8_propose_147 : decode cX8_propose 147 = .ok (.aload_n 0, 1) := by decide +kernel
theorem dX8_propose_148 : decode cX8_propose 148 = .ok (.getfield 25, 3) := by decide +kernel
theorem dX8_propose_151 : decode cX8_propose 151 = .ok (.iload_n 1, 1) := by decide +kernel
theorem dX8_propose_152 : decode cX8_propose 152 = .ok (.iaload, 1) := by decide +kernel
theorem dX8_propose_153 : decode cX8_propose 153 = .ok (.iadd, 1) := by decide +kernel
theorem dX8_propose_154 : decode cX8_propose 154 = .ok (.aload_n 0, 1) := by decide +kernel
theorem dX8_propose_155 : decode cX8_propose 155 = .ok (.getfield 116, 3) := by decide +kernel
theorem dX8_propose_158 : decode cX8_propose 158 = .ok (.iastore, 1) := by decide +kernel
theorem dX8_propose_159 : decode cX8_propose 159 = .ok (.aload_n 0, 1) := by decide +kernel
theorem dX8_propose_160 : decode cX8_propose 160 = .ok (.getfield 25, 3) := by decide +kernel
theorem dX8_propose_163 : decode cX8_propose 163 = .ok (.iload_n 1, 1) := by decide +kernel
theorem dX8_propose_164 : decode cX8_propose 164 = .ok (.dup2, 1) := by decide +kernel
theorem dX8_propose_165 : decode cX8_propose 165 = .ok (.iaload, 1) := by decide +kernel
theorem dX8_propose_166 : decode cX8_propose 166 = .ok (.iconst 1, 1) := by decide +kernel
theorem dX8_propose_167 : decode cX8_propose 167 = .ok (.iadd, 1) := by decide +kernel
theorem dX8_propose_168 : decode cX8_propose 168 = .ok (.iastore, 1) := by decide +kernel
theorem dX8_propose_169 : decode cX8_propose 169 = .ok (.aload_n 0, 1) := by decide +kernel
theorem dX8_propose_170 : decode cX8_propose 170 = .ok (.dup, 1) := by decide +kernel
theorem dX8_propose_171 : decode cX8_propose 171 = .ok (.getfield 116, 3) := by decide +kernel
theorem dX8_propose_174 : decode cX8_propose 174 = .ok (.iconst 1, 1) := by decide +kernel
theorem dX8_propose_175 : decode cX8_propose 175 = .ok (.iadd, 1) := by decide +kernel
theorem dX8_propose_176 : decode cX8_propose 176 = .ok (.putfield 116, 3) := by decide +kernel
theorem dX8_propose_179 : decode cX8_propose 179 = .ok (.aload_n 0, 1) := by decide +kernel
theorem dX8_propose_180 : decode cX8_propose 180 = .ok (.getfield 116, 3) := by decide +kernel
theorem dX8_propose_183 : decode cX8_propose 183 = .ok (.iconst 1, 1) := by decide +kernel
theorem dX8_propose_184 : decode cX8_propose 184 = .ok (.isub, 1) := by decide +kernel
theorem dX8_propose_185 : decode cX8_propose 185 = .ok (.ireturn, 1) := by decide +kernel
theorem dX8_holdersOf_0 : decode cX8_holdersOf 0 = .ok (.iconst 0, 1) := by decide +kernel
theorem dX8_holdersOf_1 : decode cX8_holdersOf 1 = .ok (.istore_n 2, 1) := by decide +kernel
theorem dX8_holdersOf_2 : decode cX8_holdersOf 2 = .ok (.iconst 0, 1) := by decide +kernel
theorem dX8_holdersOf_3 : decode cX8_holdersOf 3 = .ok (.istore_n 3, 1) := by decide +kernel
theorem dX8_holdersOf_4 : decode cX8_holdersOf 4 = .ok (.iload_n 3, 1) := by decide +kernel
theorem dX8_holdersOf_5 : decode cX8_holdersOf 5 = .ok (.bipush 100, 2) := by decide +kernel
theorem dX8_holdersOf_7 : decode cX8_holdersOf 7 = .ok (.if_icmp .ge 48, 3) := by decide +kernel
theorem dX8_holdersOf_10 : decode cX8_holdersOf 10 = .ok (.iload_n 2, 1) := by decide +kernel
theorem dX8_holdersOf_11 : decode cX8_holdersOf 11 = .ok (.iload_n 3, 1) := by decide +kernel
theorem dX8_holdersOf_12 : decode cX8_holdersOf 12 = .ok (.bipush 20, 2) := by decide +kernel
theorem dX8_holdersOf_14 : decode cX8_holdersOf 14 = .ok (.irem, 1) := by decide +kernel
theorem dX8_holdersOf_15 : decode cX8_holdersOf 15 = .ok (.aload_n 0, 1) := by decide +kernel
theorem dX8_holdersOf_16 : decode cX8_holdersOf 16 = .ok (.getfield 25, 3) := by decide +kernel
theorem dX8_holdersOf_19 : decode cX8_holdersOf 19 = .ok (.iload_n 3, 1) := by decide +kernel
theorem dX8_holdersOf_20 : decode cX8_holdersOf 20 = .ok (.bipush 20, 2) := by decide +kernel
theorem dX8_holdersOf_22 : decode cX8_holdersOf 22 = .ok (.idiv, 1) := by decide +kernel
theorem dX8_holdersOf_23 : decode cX8_holdersOf 23 = .ok (.iaload, 1) := by decide +kernel
theorem dX8_holdersOf_24 : decode cX8_holdersOf 24 = .ok (.if_icmp .ge 22, 3) := by decide +kernel
theorem dX8_holdersOf_27 : decode cX8_holdersOf 27 = .ok (.aload_n 0, 1) := by decide +kernel
theorem dX8_holdersOf_28 : decode cX8_holdersOf 28 = .ok (.getfield 22, 3) := by decide +kernel
theorem dX8_holdersOf_31 : decode cX8_holdersOf 31 = .ok (.iload_n 3, 1) := by decide +kernel
theorem dX8_holdersOf_32 : decode cX8_holdersOf 32 = .ok (.iaload, 1) := by decide +kernel
theorem dX8_holdersOf_33 : decode cX8_holdersOf 33 = .ok (.iload_n 1, 1) := by decide +kernel
theorem dX8_holdersOf_34 : decode cX8_holdersOf 34 = .ok (.if_icmp .ne 12, 3) := by decide +kernel
theorem dX8_holdersOf_37 : decode cX8_holdersOf 37 = .ok (.iconst 1, 1) := by decide +kernel
theorem dX8_holdersOf_38 : decode cX8_holdersOf 38 = .ok (.iload_n 3, 1) := by decide +kernel
theorem dX8_holdersOf_39 : decode cX8_holdersOf 39 = .ok (.bipush 20, 2) := by decide +kernel
theorem dX8_holdersOf_41 : decode cX8_holdersOf 41 = .ok (.idiv, 1) := by decide +kernel
theorem dX8_holdersOf_42 : decode cX8_holdersOf 42 = .ok (.ishl, 1) := by decide +kernel
theorem dX8_holdersOf_43 : decode cX8_holdersOf 43 = .ok (.goto 4, 3) := by decide +kernel
theorem dX8_holdersOf_46 : decode cX8_holdersOf 46 = .ok (.iconst 0, 1) := by decide +kernel
theorem dX8_holdersOf_47 : decode cX8_holdersOf 47 = .ok (.ior, 1) := by decide +kernel
theorem dX8_holdersOf_48 : decode cX8_holdersOf 48 = .ok (.istore_n 2, 1) := by decide +kernel
theorem dX8_holdersOf_49 : decode cX8_holdersOf 49 = .ok (.iinc 3 1, 3) := by decide +kernel
theorem dX8_holdersOf_52 : decode cX8_holdersOf 52 = .ok (.goto (-48), 3) := by decide +kernel
theorem dX8_holdersOf_55 : decode cX8_holdersOf 55 = .ok (.iload_n 2, 1) := by decide +kernel
theorem dX8_holdersOf_56 : decode cX8_holdersOf 56 = .ok (.ireturn, 1) := by decide +kernel
theorem dX8_isHeldNow_0 : decode cX8_isHeldNow 0 = .ok (.aload_n 0, 1) := by decide +kernel
theorem dX8_isHeldNow_1 : decode cX8_isHeldNow 1 = .ok (.iload_n 1, 1) := by decide +kernel
theorem dX8_isHeldNow_2 : decode cX8_isHeldNow 2 = .ok (.invokevirtual 119, 3) := by decide +kernel
theorem dX8_isHeldNow_5 : decode cX8_isHeldNow 5 = .ok (.istore_n 2, 1) := by decide +kernel
theorem dX8_isHeldNow_6 : decode cX8_isHeldNow 6 = .ok (.iconst 0, 1) := by decide +kernel
theorem dX8_isHeldNow_7 : decode cX8_isHeldNow 7 = .ok (.istore_n 3, 1) := by decide +kernel
theorem dX8_isHeldNow_8 : decode cX8_isHeldNow 8 = .ok (.iconst 0, 1) := by decide +kernel
theorem dX8_isHeldNow_9 : decode cX8_isHeldNow 9 = .ok (.istore 4, 2) := by decide +kernel
theorem dX8_isHeldNow_11 : decode cX8_isHeldNow 11 = .ok (.iload 4, 2) := by decide +kernel
theorem dX8_isHeldNow_13 : decode cX8_isHeldNow 13 = .ok (.iconst 5, 1) := by decide +kernel
theorem dX8_isHeldNow_14 : decode cX8_isHeldNow 14 = .ok (.if_icmp .ge 18, 3) := by decide +kernel
theorem dX8_isHeldNow_17 : decode cX8_isHeldNow 17 = .ok (.iload_n 3, 1) := by decide +kernel
theorem dX8_isHeldNow_18 : decode cX8_isHeldNow 18 = .ok (.iload_n 2, 1) := by decide +kernel
theorem dX8_isHeldNow_19 : decode cX8_isHeldNow 19 = .ok (.iload 4, 2) := by decide +kernel
theorem dX8_isHeldNow_21 : decode cX8_isHeldNow 21 = .ok (.ishr, 1) := by decide +kernel
theorem dX8_isHeldNow_22 : decode cX8_isHeldNow 22 = .ok (.iconst 1, 1) := by decide +kernel
theorem dX8_isHeldNow_23 : decode cX8_isHeldNow 23 = .ok (.iand, 1) := by decide +kernel
theorem dX8_isHeldNow_24 : decode cX8_isHeldNow 24 = .ok (.iadd, 1) := by decide +kernel
theorem dX8_isHeldNow_25 : decode cX8_isHeldNow 25 = .ok (.istore_n 3, 1) := by decide +kernel
theorem dX8_isHeldNow_26 : decode cX8_isHeldNow 26 = .ok (.iinc 4 1, 3) := by decide +kernel
theorem dX8_isHeldNow_29 : decode cX8_isHeldNow 29 = .ok (.goto (-18), 3) := by decide +kernel
theorem dX8_isHeldNow_32 : decode cX8_isHeldNow 32 = .ok (.iload_n 3, 1) := by decide +kernel
theorem dX8_isHeldNow_33 : decode cX8_isHeldNow 33 = .ok (.iconst 3, 1) := by decide +kernel
theorem dX8_isHeldNow_34 : decode cX8_isHeldNow 34 = .ok (.if_icmp .lt 7, 3) := by decide +kernel
theorem dX8_isHeldNow_37 : decode cX8_isHeldNow 37 = .ok (.iconst 1, 1) := by decide +kernel
theorem dX8_isHeldNow_38 : decode cX8_isHeldNow 38 = .ok (.goto 4, 3) := by decide +kernel
theorem dX8_isHeldNow_41 : decode cX8_isHeldNow 41 = .ok (.iconst 0, 1) := by decide +kernel
theorem dX8_isHeldNow_42 : decode cX8_isHeldNow 42 = .ok (.ireturn, 1) := by decide +kernel
theorem dX8_callsBack_0 : decode cX8_callsBack 0 = .ok (.aload_n 0, 1) := by decide +kernel
theorem dX8_callsBack_1 : decode cX8_callsBack 1 = .ok (.getfield 70, 3) := by decide +kernel
theorem dX8_callsBack_4 : decode cX8_callsBack 4 = .ok (.iload_n 1, 1) := by decide +kernel
theorem dX8_callsBack_5 : decode cX8_callsBack 5 = .ok (.iaload, 1) := by decide +kernel
theorem dX8_callsBack_6 : decode cX8_callsBack 6 = .ok (.istore_n 3, 1) := by decide +kernel
theorem dX8_callsBack_7 : decode cX8_callsBack 7 = .ok (.iload_n 3, 1) := by decide +kernel
theorem dX8_callsBack_8 : decode cX8_callsBack 8 = .ok (.ifCond .le 43, 3) := by decide +kernel
theorem dX8_callsBack_11 : decode cX8_callsBack 11 = .ok (.aload_n 0, 1) := by decide +kernel
theorem dX8_callsBack_12 : decode cX8_callsBack 12 = .ok (.getfield 73, 3) := by decide +kernel
theorem dX8_callsBack_15 : decode cX8_callsBack 15 = .ok (.aload_n 0, 1) := by decide +kernel
theorem dX8_callsBack_16 : decode cX8_callsBack 16 = .ok (.getfield 122, 3) := by decide +kernel
theorem dX8_callsBack_19 : decode cX8_callsBack 19 = .ok (.iload_n 1, 1) := by decide +kernel
theorem dX8_callsBack_20 : decode cX8_callsBack 20 = .ok (.iastore, 1) := by decide +kernel
theorem dX8_callsBack_21 : decode cX8_callsBack 21 = .ok (.aload_n 0, 1) := by decide +kernel
theorem dX8_callsBack_22 : decode cX8_callsBack 22 = .ok (.getfield 76, 3) := by decide +kernel
theorem dX8_callsBack_25 : decode cX8_callsBack 25 = .ok (.aload_n 0, 1) := by decide +kernel
theorem dX8_callsBack_26 : decode cX8_callsBack 26 = .ok (.getfield 122, 3) := by decide +kernel
theorem dX8_callsBack_29 : decode cX8_callsBack 29 = .ok (.iload_n 3, 1) := by decide +kernel
theorem dX8_callsBack_30 : decode cX8_callsBack 30 = .ok (.iastore, 1) := by decide +kernel
theorem dX8_callsBack_31 : decode cX8_callsBack 31 = .ok (.aload_n 0, 1) := by decide +kernel
theorem dX8_callsBack_32 : decode cX8_callsBack 32 = .ok (.getfield 79, 3) := by decide +kernel
theorem dX8_callsBack_35 : decode cX8_callsBack 35 = .ok (.aload_n 0, 1) := by decide +kernel
theorem dX8_callsBack_36 : decode cX8_callsBack 36 = .ok (.getfield 122, 3) := by decide +kernel
theorem dX8_callsBack_39 : decode cX8_callsBack 39 = .ok (.iload_n 2, 1) := by decide +kernel
theorem dX8_callsBack_40 : decode cX8_callsBack 40 = .ok (.iastore, 1) := by decide +kernel
theorem dX8_callsBack_41 : decode cX8_callsBack 41 = .ok (.aload_n 0, 1) := by decide +kernel
theorem dX8_callsBack_42 : decode cX8_callsBack 42 = .ok (.dup, 1) := by decide +kernel
theorem dX8_callsBack_43 : decode cX8_callsBack 43 = .ok (.getfield 122, 3) := by decide +kernel
theorem dX8_callsBack_46 : decode cX8_callsBack 46 = .ok (.iconst 1, 1) := by decide +kernel
theorem dX8_callsBack_47 : decode cX8_callsBack 47 = .ok (.iadd, 1) := by decide +kernel
theorem dX8_callsBack_48 : decode cX8_callsBack 48 = .ok (.putfield 122, 3) := by decide +kernel
theorem dX8_callsBack_51 : decode cX8_callsBack 51 = .ok (.aload_n 0, 1) := by decide +kernel
theorem dX8_callsBack_52 : decode cX8_callsBack 52 = .ok (.getfield 70, 3) := by decide +kernel
theorem dX8_callsBack_55 : decode cX8_callsBack 55 = .ok (.iload_n 1, 1) := by decide +kernel
theorem dX8_callsBack_56 : decode cX8_callsBack 56 = .ok (.iconst 0, 1) := by decide +kernel
theorem dX8_callsBack_57 : decode cX8_callsBack 57 = .ok (.iastore, 1) := by decide +kernel
theorem dX8_callsBack_58 : decode cX8_callsBack 58 = .ok (.iload_n 3, 1) := by decide +kernel
theorem dX8_callsBack_59 : decode cX8_callsBack 59 = .ok (.ireturn, 1) := by decide +kernel
theorem dX8_callsBackVersions_0 : decode cX8_callsBackVersions 0 = .ok (.iconst 0, 1) := by decide +kernel
theorem dX8_callsBackVersions_1 : decode cX8_callsBackVersions 1 = .ok (.istore_n 1, 1) := by decide +kernel
theorem dX8_callsBackVersions_2 : decode cX8_callsBackVersions 2 = .ok (.iload_n 1, 1) := by decide +kernel
theorem dX8_callsBackVersions_3 : decode cX8_callsBackVersions 3 = .ok (.aload_n 0, 1) := by decide +kernel
theorem dX8_callsBackVersions_4 : decode cX8_callsBackVersions 4 = .ok (.getfield 116, 3) := by decide +kernel
theorem dX8_callsBackVersions_7 : decode cX8_callsBackVersions 7 = .ok (.if_icmp .ge 82, 3) := by decide +kernel
theorem dX8_callsBackVersions_10 : decode cX8_callsBackVersions 10 = .ok (.aload_n 0, 1) := by decide +kernel
theorem dX8_callsBackVersions_11 : decode cX8_callsBackVersions 11 = .ok (.iload_n 1, 1) := by decide +kernel
theorem dX8_callsBackVersions_12 : decode cX8_callsBackVersions 12 = .ok (.invokevirtual 125, 3) := by decide +kernel
theorem dX8_callsBackVersions_15 : decode cX8_callsBackVersions 15 = .ok (.istore_n 2, 1) := by decide +kernel
theorem dX8_callsBackVersions_16 : decode cX8_callsBackVersions 16 = .ok (.aload_n 0, 1) := by decide +kernel
theorem dX8_callsBackVersions_17 : decode cX8_callsBackVersions 17 = .ok (.getfield 40, 3) := by decide +kernel
theorem dX8_callsBackVersions_20 : decode cX8_callsBackVersions 20 = .ok (.iload_n 1, 1) := by decide +kernel
theorem dX8_callsBackVersions_21 : decode cX8_callsBackVersions 21 = .ok (.iload_n 2, 1) := by decide +kernel
theorem dX8_callsBackVersions_22 : decode cX8_callsBackVersions 22 = .ok (.ifCond .eq 7, 3) := by decide +kernel
theorem dX8_callsBackVersions_25 : decode cX8_callsBackVersions 25 = .ok (.iconst 1, 1) := by decide +kernel
theorem dX8_callsBackVersions_26 : decode cX8_callsBackVersions 26 = .ok (.goto 9, 3) := by decide +kernel
theorem dX8_callsBackVersions_29 : decode cX8_callsBackVersions 29 = .ok (.aload_n 0, 1) := by decide +kernel
theorem dX8_callsBackVersions_30 : decode cX8_callsBackVersions 30 = .ok (.getfield 40, 3) := by decide +kernel
theorem dX8_callsBackVersions_33 : decode cX8_callsBackVersions 33 = .ok (.iload_n 1, 1) := by decide +kernel
theorem dX8_callsBackVersions_34 : decode cX8_callsBackVersions 34 = .ok (.iaload, 1) := by decide +kernel
theorem dX8_callsBackVersions_35 : decode cX8_callsBackVersions 35 = .ok (.iastore, 1) := by decide +kernel
theorem dX8_callsBackVersions_36 : decode cX8_callsBackVersions 36 = .ok (.iconst 0, 1) := by decide +kernel
theorem dX8_callsBackVersions_37 : decode cX8_callsBackVersions 37 = .ok (.istore_n 3, 1) := by decide +kernel
theorem dX8_callsBackVersions_38 : decode cX8_callsBackVersions 38 = .ok (.iload_n 3, 1) := by decide +kernel
theorem dX8_callsBackVersions_39 : decode cX8_callsBackVersions 39 = .ok (.aload_n 0, 1) := by decide +kernel
theorem dX8_callsBackVersions_40 : decode cX8_callsBackVersions 40 = .ok (.getfield 128, 3) := by decide +kernel
theorem dX8_callsBackVersions_43 : decode cX8_callsBackVersions 43 = .ok (.if_icmp .ge 40, 3) := by decide +kernel
theorem dX8_callsBackVersions_46 : decode cX8_callsBackVersions 46 = .ok (.aload_n 0, 1) := by decide +kernel
theorem dX8_callsBackVersions_47 : decode cX8_callsBackVersions 47 = .ok (.getfield 43, 3) := by decide +kernel
theorem dX8_callsBackVersions_50 : decode cX8_callsBackVersions 50 = .ok (.iload_n 1, 1) := by decide +kernel
theorem dX8_callsBackVersions_51 : decode cX8_callsBackVersions 51 = .ok (.iaload, 1) := by decide +kernel
theorem dX8_callsBackVersions_52 : decode cX8_callsBackVersions 52 = .ok (.iconst 1, 1) := by decide +kernel
theorem dX8_callsBackVersions_53 : decode cX8_callsBackVersions 53 = .ok (.if_icmp .ne 30, 3) := by decide +kernel
theorem dX8_callsBackVersions_56 : decode cX8_callsBackVersions 56 = .ok (.iload_n 2, 1) := by decide +kernel
theorem dX8_callsBackVersions_57 : decode cX8_callsBackVersions 57 = .ok (.ifCond .ne 26, 3) := by decide +kernel
theorem dX8_callsBackVersions_60 : decode cX8_callsBackVersions 60 = .ok (.aload_n 0, 1) := by decide +kernel
theorem dX8_callsBackVersions_61 : decode cX8_callsBackVersions 61 = .ok (.getfield 61, 3) := by decide +kernel
theorem dX8_callsBackVersions_64 : decode cX8_callsBackVersions 64 = .ok (.iload_n 3, 1) := by decide +kernel
theorem dX8_callsBackVersions_65 : decode cX8_callsBackVersions 65 = .ok (.iaload, 1) := by decide +kernel
theorem dX8_callsBackVersions_66 : decode cX8_callsBackVersions 66 = .ok (.iload_n 1, 1) := by decide +kernel
theorem dX8_callsBackVersions_67 : decode cX8_callsBackVersions 67 = .ok (.if_icmp .ne 10, 3) := by decide +kernel
theorem dX8_callsBackVersions_70 : decode cX8_callsBackVersions 70 = .ok (.aload_n 0, 1) := by decide +kernel
theorem dX8_callsBackVersions_71 : decode cX8_callsBackVersions 71 = .ok (.iload_n 3, 1) := by decide +kernel
theorem dX8_callsBackVersions_72 : decode cX8_callsBackVersions 72 = .ok (.iconst 1, 1) := by decide +kernel
theorem dX8_callsBackVersions_73 : decode cX8_callsBackVersions 73 = .ok (.invokevirtual 131, 3) := by decide +kernel
theorem dX8_callsBackVersions_76 : decode cX8_callsBackVersions 76 = .ok (.pop, 1) := by decide +kernel
theorem dX8_callsBackVersions_77 : decode cX8_callsBackVersions 77 = .ok (.iinc 3 1, 3) := by decide +kernel
theorem dX8_callsBackVersions_80 : decode cX8_callsBackVersions 80 = .ok (.goto (-42), 3) := by decide +kernel
theorem dX8_callsBackVersions_83 : decode cX8_callsBackVersions 83 = .ok (.iinc 1 1, 3) := by decide +kernel
theorem dX8_callsBackVersions_86 : decode cX8_callsBackVersions 86 = .ok (.goto (-84), 3) := by decide +kernel
theorem dX8_callsBackVersions_89 : decode cX8_callsBackVersions 89 = .ok (.return_, 1) := by decide +kernel
theorem dX8_tell_0 : decode cX8_tell 0 = .ok (.aload_n 0, 1) := by decide +kernel
theorem dX8_tell_1 : decode cX8_tell 1 = .ok (.aload_n 0, 1) := by decide +kernel
theorem dX8_tell_2 : decode cX8_tell 2 = .ok (.iload_n 1, 1) := by decide +kernel
theorem dX8_tell_3 : decode cX8_tell 3 = .ok (.iload_n 2, 1) := by decide +kernel
theorem dX8_tell_4 : decode cX8_tell 4 = .ok (.iconst 2, 1) := by decide +kernel
theorem dX8_tell_5 : decode cX8_tell 5 = .ok (.invokevirtual 109, 3) := by decide +kernel
theorem dX8_tell_8 : decode cX8_tell 8 = .ok (.putfield 82, 3) := by decide +kernel
theorem dX8_tell_11 : decode cX8_tell 11 = .ok (.aload_n 0, 1) := by decide +kernel
theorem dX8_tell_12 : decode cX8_tell 12 = .ok (.getfield 82, 3) := by decide +kernel
theorem dX8_tell_15 : decode cX8_tell 15 = .ok (.ifCond .le 5, 3) := by decide +kernel
theorem dX8_tell_18 : decode cX8_tell 18 = .ok (.iconst 0, 1) := by decide +kernel
theorem dX8_tell_19 : decode cX8_tell 19 = .ok (.ireturn, 1) := by decide +kernel
theorem dX8_tell_20 : decode cX8_tell 20 = .ok (.aload_n 0, 1) := by decide +kernel
theorem dX8_tell_21 : decode cX8_tell 21 = .ok (.getfield 7, 3) := by decide +kernel
theorem dX8_tell_24 : decode cX8_tell 24 = .ok (.iload_n 2, 1) := by decide +kernel
theorem dX8_tell_25 : decode cX8_tell 25 = .ok (.iaload, 1) := by decide +kernel
theorem dX8_tell_26 : decode cX8_tell 26 = .ok (.aload_n 0, 1) := by decide +kernel
theorem dX8_tell_27 : decode cX8_tell 27 = .ok (.getfield 7, 3) := by decide +kernel
theorem dX8_tell_30 : decode cX8_tell 30 = .ok (.iload_n 1, 1) := by decide +kernel
theorem dX8_tell_31 : decode cX8_tell 31 = .ok (.iaload, 1) := by decide +kernel
theorem dX8_tell_32 : decode cX8_tell 32 = .ok (.if_icmp .le 16, 3) := by decide +kernel
theorem dX8_tell_35 : decode cX8_tell 35 = .ok (.aload_n 0, 1) := by decide +kernel
theorem dX8_tell_36 : decode cX8_tell 36 = .ok (.iload_n 1, 1) := by decide +kernel
theorem dX8_tell_37 : decode cX8_tell 37 = .ok (.aload_n 0, 1) := by decide +kernel
theorem dX8_tell_38 : decode cX8_tell 38 = .ok (.getfield 7, 3) := by decide +kernel
theorem dX8_tell_41 : decode cX8_tell 41 = .ok (.iload_n 2, 1) := by decide +kernel
theorem dX8_tell_42 : decode cX8_tell 42 = .ok (.iaload, 1) := by decide +kernel
theorem dX8_tell_43 : decode cX8_tell 43 = .ok (.invokevirtual 97, 3) := by decide +kernel
theorem dX8_tell_46 : decode cX8_tell 46 = .ok (.iconst (-1), 1) := by decide +kernel
theorem dX8_tell_47 : decode cX8_tell 47 = .ok (.ireturn, 1) := by decide +kernel
theorem dX8_tell_48 : decode cX8_tell 48 = .ok (.aload_n 0, 1) := by decide +kernel
theorem dX8_tell_49 : decode cX8_tell 49 = .ok (.getfield 7, 3) := by decide +kernel
theorem dX8_tell_52 : decode cX8_tell 52 = .ok (.iload_n 2, 1) := by decide +kernel
theorem dX8_tell_53 : decode cX8_tell 53 = .ok (.iaload, 1) := by decide +kernel
theorem dX8_tell_54 : decode cX8_tell 54 = .ok (.aload_n 0, 1) := by decide +kernel
theorem dX8_tell_55 : decode cX8_tell 55 = .ok (.getfield 7, 3) := by decide +kernel
theorem dX8_tell_58 : decode cX8_tell 58 = .ok (.iload_n 1, 1) := by decide +kernel
theorem dX8_tell_59 : decode cX8_tell 59 = .ok (.iaload, 1) := by decide +kernel
theorem dX8_tell_60 : decode cX8_tell 60 = .ok (.if_icmp .ge 14, 3) := by decide +kernel
theorem dX8_tell_63 : decode cX8_tell 63 = .ok (.aload_n 0, 1) := by decide +kernel
theorem dX8_tell_64 : decode cX8_tell 64 = .ok (.iload_n 2, 1) := by decide +kernel
theorem dX8_tell_65 : decode cX8_tell 65 = .ok (.aload_n 0, 1) := by decide +kernel
theorem dX8_tell_66 : decode cX8_tell 66 = .ok (.getfield 7, 3) := by decide +kernel
theorem dX8_tell_69 : decode cX8_tell 69 = .ok (.iload_n 1, 1) := by decide +kernel
theorem dX8_tell_70 : decode cX8_tell 70 = .ok (.iaload, 1) := by decide +kernel
theorem dX8_tell_71 : decode cX8_tell 71 = .ok (.invokevirtual 97, 3) := by decide +kernel
theorem dX8_tell_74 : decode cX8_tell 74 = .ok (.aload_n 0, 1) := by decide +kernel
theorem dX8_tell_75 : decode cX8_tell 75 = .ok (.getfield 13, 3) := by decide +kernel
theorem dX8_tell_78 : decode cX8_tell 78 = .ok (.iload_n 2, 1) := by decide +kernel
theorem dX8_tell_79 : decode cX8_tell 79 = .ok (.iconst 0, 1) := by decide +kernel
theorem dX8_tell_80 : decode cX8_tell 80 = .ok (.iastore, 1) := by decide +kernel
theorem dX8_tell_81 : decode cX8_tell 81 = .ok (.iconst 0, 1) := by decide +kernel
theorem dX8_tell_82 : decode cX8_tell 82 = .ok (.istore_n 3, 1) := by decide +kernel
theorem dX8_tell_83 : decode cX8_tell 83 = .ok (.iload_n 3, 1) := by decide +kernel
theorem dX8_tell_84 : decode cX8_tell 84 = .ok (.aload_n 0, 1) := by decide +kernel
theorem dX8_tell_85 : decode cX8_tell 85 = .ok (.getfield 116, 3) := by decide +kernel
theorem dX8_tell_88 : decode cX8_tell 88 = .ok (.if_icmp .ge 28, 3) := by decide +kernel
theorem dX8_tell_91 : decode cX8_tell 91 = .ok (.aload_n 0, 1) := by decide +kernel
theorem dX8_tell_92 : decode cX8_tell 92 = .ok (.getfield 43, 3) := by decide +kernel
theorem dX8_tell_95 : decode cX8_tell 95 = .ok (.iload_n 3, 1) := by decide +kernel
theorem dX8_tell_96 : decode cX8_tell 96 = .ok (.aload_n 0, 1) := by decide +kernel
theorem dX8_tell_97 : decode cX8_tell 97 = .ok (.iload_n 3, 1) := by decide +kernel
theorem dX8_tell_98 : decode cX8_tell 98 = .ok (.invokevirtual 125, 3) := by decide +kernel
theorem dX8_tell_101 : decode cX8_tell 101 = .ok (.ifCond .eq 7, 3) := by decide +kernel
theorem dX8_tell_104 : decode cX8_tell 104 = .ok (.iconst 1, 1) := by decide +kernel
theorem dX8_tell_105 : decode cX8_tell 105 = .ok (.goto 4, 3) := by decide +kernel
theorem dX8_tell_108 : decode cX8_tell 108 = .ok (.iconst 0, 1) := by decide +kernel
theorem dX8_tell_109 : decode cX8_tell 109 = .ok (.iastore, 1) := by decide +kernel
theorem dX8_tell_110 : decode cX8_tell 110 = .ok (.iinc 3 1, 3) := by decide +kernel
theorem dX8_tell_113 : decode cX8_tell 113 = .ok (.goto (-30), 3) := by decide +kernel
theorem dX8_tell_116 : decode cX8_tell 116 = .ok (.iconst 0, 1) := by decide +kernel
theorem dX8_tell_117 : decode cX8_tell 117 = .ok (.istore_n 3, 1) := by decide +kernel
theorem dX8_tell_118 : decode cX8_tell 118 = .ok (.iload_n 3, 1) := by decide +kernel
theorem dX8_tell_119 : decode cX8_tell 119 = .ok (.aload_n 0, 1) := by decide +kernel
theorem dX8_tell_120 : decode cX8_tell 120 = .ok (.getfield 25, 3) := by decide +kernel
theorem dX8_tell_123 : decode cX8_tell 123 = .ok (.iload_n 1, 1) := by decide +kernel
theorem dX8_tell_124 : decode cX8_tell 124 = .ok (.iaload, 1) := by decide +kernel
theorem dX8_tell_125 : decode cX8_tell 125 = .ok (.if_icmp .ge 44, 3) := by decide +kernel
theorem dX8_tell_128 : decode cX8_tell 128 = .ok (.iload_n 3, 1) := by decide +kernel
theorem dX8_tell_129 : decode cX8_tell 129 = .ok (.aload_n 0, 1) := by decide +kernel
theorem dX8_tell_130 : decode cX8_tell 130 = .ok (.getfield 25, 3) := by decide +kernel
theorem dX8_tell_133 : decode cX8_tell 133 = .ok (.iload_n 2, 1) := by decide +kernel
theorem dX8_tell_134 : decode cX8_tell 134 = .ok (.iaload, 1) := by decide +kernel
theorem dX8_tell_135 : decode cX8_tell 135 = .ok (.if_icmp .ge 34, 3) := by decide +kernel
theorem dX8_tell_138 : decode cX8_tell 138 = .ok (.aload_n 0, 1) := by decide +kernel
theorem dX8_tell_139 : decode cX8_tell 139 = .ok (.getfield 22, 3) := by decide +kernel
theorem dX8_tell_142 : decode cX8_tell 142 = .ok (.bipush 20, 2) := by decide +kernel
theorem dX8_tell_144 : decode cX8_tell 144 = .ok (.iload_n 1, 1) := by decide +kernel
theorem dX8_tell_145 : decode cX8_tell 145 = .ok (.imul, 1) := by decide +kernel
theorem dX8_tell_146 : decode cX8_tell 146 = .ok (.iload_n 3, 1) := by decide +kernel
theorem dX8_tell_147 : decode cX8_tell 147 = .ok (.iadd, 1) := by decide +kernel
theorem dX8_tell_148 : decode cX8_tell 148 = .ok (.iaload, 1) := by decide +kernel
theorem dX8_tell_149 : decode cX8_tell 149 = .ok (.aload_n 0, 1) := by decide +kernel
theorem dX8_tell_150 : decode cX8_tell 150 = .ok (.getfield 22, 3) := by decide +kernel
theorem dX8_tell_153 : decode cX8_tell 153 = .ok (.bipush 20, 2) := by decide +kernel
theorem dX8_tell_155 : decode cX8_tell 155 = .ok (.iload_n 2, 1) := by decide +kernel
theorem dX8_tell_156 : decode cX8_tell 156 = .ok (.imul, 1) := by decide +kernel
theorem dX8_tell_157 : decode cX8_tell 157 = .ok (.iload_n 3, 1) := by decide +kernel
theorem dX8_tell_158 : decode cX8_tell 158 = .ok (.iadd, 1) := by decide +kernel
theorem dX8_tell_159 : decode cX8_tell 159 = .ok (.iaload, 1) := by decide +kernel
theorem dX8_tell_160 : decode cX8_tell 160 = .ok (.if_icmp .ne 9, 3) := by decide +kernel
theorem dX8_tell_163 : decode cX8_tell 163 = .ok (.iinc 3 1, 3) := by decide +kernel
theorem dX8_tell_166 : decode cX8_tell 166 = .ok (.goto (-48), 3) := by decide +kernel
theorem dX8_tell_169 : decode cX8_tell 169 = .ok (.aload_n 0, 1) := by decide +kernel
theorem dX8_tell_170 : decode cX8_tell 170 = .ok (.getfield 25, 3) := by decide +kernel
theorem dX8_tell_173 : decode cX8_tell 173 = .ok (.iload_n 2, 1) := by decide +kernel
theorem dX8_tell_174 : decode cX8_tell 174 = .ok (.iload_n 3, 1) := by decide +kernel
theorem dX8_tell_175 : decode cX8_tell 175 = .ok (.aload_n 0, 1) := by decide +kernel
theorem dX8_tell_176 : decode cX8_tell 176 = .ok (.getfield 25, 3) := by decide +kernel
theorem dX8_tell_179 : decode cX8_tell 179 = .ok (.iload_n 1, 1) := by decide +kernel
theorem dX8_tell_180 : decode cX8_tell 180 = .ok (.iaload, 1) := by decide +kernel
theorem dX8_tell_181 : decode cX8_tell 181 = .ok (.if_icmp .ge 17, 3) := by decide +kernel
theorem dX8_tell_184 : decode cX8_tell 184 = .ok (.iload_n 3, 1) := by decide +kernel
theorem dX8_tell_185 : decode cX8_tell 185 = .ok (.aload_n 0, 1) := by decide +kernel
theorem dX8_tell_186 : decode cX8_tell 186 = .ok (.getfield 25, 3) := by decide +kernel
theorem dX8_tell_189 : decode cX8_tell 189 = .ok (.iload_n 2, 1) := by decide +kernel
theorem dX8_tell_190 : decode cX8_tell 190 = .ok (.iaload, 1) := by decide +kernel
theorem dX8_tell_191 : decode cX8_tell 191 = .ok (.if_icmp .ge 7, 3) := by decide +kernel
theorem dX8_tell_194 : decode cX8_tell 194 = .ok (.iload_n 3, 1) := by decide +kernel
theorem dX8_tell_195 : decode cX8_tell 195 = .ok (.goto 9, 3) := by decide +kernel
theorem dX8_tell_198 : decode cX8_tell 198 = .ok (.aload_n 0, 1) := by decide +kernel
theorem dX8_tell_199 : decode cX8_tell 199 = .ok (.getfield 25, 3) := by decide +kernel
theorem dX8_tell_202 : decode cX8_tell 202 = .ok (.iload_n 2, 1) := by decide +kernel
theorem dX8_tell_203 : decode cX8_tell 203 = .ok (.iaload, 1) := by decide +kernel
theorem dX8_tell_204 : decode cX8_tell 204 = .ok (.iastore, 1) := by decide +kernel
theorem dX8_tell_205 : decode cX8_tell 205 = .ok (.iconst 0, 1) := by decide +kernel
theorem dX8_tell_206 : decode cX8_tell 206 = .ok (.istore 4, 2) := by decide +kernel
theorem dX8_tell_208 : decode cX8_tell 208 = .ok (.aload_n 0, 1) := by decide +kernel
theorem dX8_tell_209 : decode cX8_tell 209 = .ok (.getfield 25, 3) := by decide +kernel
theorem dX8_tell_212 : decode cX8_tell 212 = .ok (.iload_n 2, 1) := by decide +kernel
theorem dX8_tell_213 : decode cX8_tell 213 = .ok (.iaload, 1) := by decide +kernel
theorem dX8_tell_214 : decode cX8_tell 214 = .ok (.aload_n 0, 1) := by decide +kernel
theorem dX8_tell_215 : decode cX8_tell 215 = .ok (.getfield 25, 3) := by decide +kernel
theorem dX8_tell_218 : decode cX8_tell 218 = .ok (.iload_n 1, 1) := by decide +kernel
theorem dX8_tell_219 : decode cX8_tell 219 = .ok (.iaload, 1) := by decide +kernel
theorem dX8_tell_220 : decode cX8_tell 220 = .ok (.if_icmp .ge 51, 3) := by decide +kernel
theorem dX8_tell_223 : decode cX8_tell 223 = .ok (.aload_n 0, 1) := by decide +kernel
theorem dX8_tell_224 : decode cX8_tell 224 = .ok (.getfield 22, 3) := by decide +kernel
theorem dX8_tell_227 : decode cX8_tell 227 = .ok (.bipush 20, 2) := by decide +kernel
theorem dX8_tell_229 : decode cX8_tell 229 = .ok (.iload_n 2, 1) := by decide +kernel
theorem dX8_tell_230 : decode cX8_tell 230 = .ok (.imul, 1) := by decide +kernel
theorem dX8_tell_231 : decode cX8_tell 231 = .ok (.aload_n 0, 1) := by decide +kernel
theorem dX8_tell_232 : decode cX8_tell 232 = .ok (.getfield 25, 3) := by decide +kernel
theorem dX8_tell_235 : decode cX8_tell 235 = .ok (.iload_n 2, 1) := by decide +kernel
theorem dX8_tell_236 : decode cX8_tell 236 = .ok (.iaload, 1) := by decide +kernel
theorem dX8_tell_237 : decode cX8_tell 237 = .ok (.iadd, 1) := by decide +kernel
theorem dX8_tell_238 : decode cX8_tell 238 = .ok (.aload_n 0, 1) := by decide +kernel
theorem dX8_tell_239 : decode cX8_tell 239 = .ok (.getfield 22, 3) := by decide +kernel
theorem dX8_tell_242 : decode cX8_tell 242 = .ok (.bipush 20, 2) := by decide +kernel
theorem dX8_tell_244 : decode cX8_tell 244 = .ok (.iload_n 1, 1) := by decide +kernel
theorem dX8_tell_245 : decode cX8_tell 245 = .ok (.imul, 1) := by decide +kernel
theorem dX8_tell_246 : decode cX8_tell 246 = .ok (.aload_n 0, 1) := by decide +kernel
theorem dX8_tell_247 : decode cX8_tell 247 = .ok (.getfield 25, 3) := by decide +kernel
theorem dX8_tell_250 : decode cX8_tell 250 = .ok (.iload_n 2, 1) := by decide +kernel
theorem dX8_tell_251 : decode cX8_tell 251 = .ok (.iaload, 1) := by decide +kernel
theorem dX8_tell_252 : decode cX8_tell 252 = .ok (.iadd, 1) := by decide +kernel
theorem dX8_tell_253 : decode cX8_tell 253 = .ok (.iaload, 1) := by decide +kernel
theorem dX8_tell_254 : decode cX8_tell 254 = .ok (.iastore, 1) := by decide +kernel
theorem dX8_tell_255 : decode cX8_tell 255 = .ok (.aload_n 0, 1) := by decide +kernel
theorem dX8_tell_256 : decode cX8_tell 256 = .ok (.getfield 25, 3) := by decide +kernel
theorem dX8_tell_259 : decode cX8_tell 259 = .ok (.iload_n 2, 1) := by decide +kernel
theorem dX8_tell_260 : decode cX8_tell 260 = .ok (.dup2, 1) := by decide +kernel
theorem dX8_tell_261 : decode cX8_tell 261 = .ok (.iaload, 1) := by decide +kernel
theorem dX8_tell_262 : decode cX8_tell 262 = .ok (.iconst 1, 1) := by decide +kernel
theorem dX8_tell_263 : decode cX8_tell 263 = .ok (.iadd, 1) := by decide +kernel
theorem dX8_tell_264 : decode cX8_tell 264 = .ok (.iastore, 1) := by decide +kernel
theorem dX8_tell_265 : decode cX8_tell 265 = .ok (.iinc 4 1, 3) := by decide +kernel
theorem dX8_tell_268 : decode cX8_tell 268 = .ok (.goto (-60), 3) := by decide +kernel
theorem dX8_tell_271 : decode cX8_tell 271 = .ok (.aload_n 0, 1) := by decide +kernel
theorem dX8_tell_272 : decode cX8_tell 272 = .ok (.invokevirtual 135, 3) := by decide +kernel
theorem dX8_tell_275 : decode cX8_tell 275 = .ok (.iload 4, 2) := by decide +kernel
theorem dX8_tell_277 : decode cX8_tell 277 = .ok (.ireturn, 1) := by decide +kernel
theorem dX8_isTold_0 : decode cX8_isTold 0 = .ok (.aload_n 0, 1) := by decide +kernel
theorem dX8_isTold_1 : decode cX8_isTold 1 = .ok (.iload_n 1, 1) := by decide +kernel
theorem dX8_isTold_2 : decode cX8_isTold 2 = .ok (.invokestatic 93, 3) := by decide +kernel
theorem dX8_isTold_5 : decode cX8_isTold 5 = .ok (.ifCond .eq 7, 3) := by decide +kernel
theorem dX8_isTold_8 : decode cX8_isTold 8 = .ok (.iconst 0, 1) := by decide +kernel
theorem dX8_isTold_9 : decode cX8_isTold 9 = .ok (.goto 4, 3) := by decide +kernel
theorem dX8_isTold_12 : decode cX8_isTold 12 = .ok (.iconst 1, 1) := by decide +kernel
theorem dX8_isTold_13 : decode cX8_isTold 13 = .ok (.putfield 82, 3) := by decide +kernel
theorem dX8_isTold_16 : decode cX8_isTold 16 = .ok (.aload_n 0, 1) := by decide +kernel
theorem dX8_isTold_17 : decode cX8_isTold 17 = .ok (.getfield 82, 3) := by decide +kernel
theorem dX8_isTold_20 : decode cX8_isTold 20 = .ok (.ifCond .ne 7, 3) := by decide +kernel
theorem dX8_isTold_23 : decode cX8_isTold 23 = .ok (.iconst 1, 1) := by decide +kernel
theorem dX8_isTold_24 : decode cX8_isTold 24 = .ok (.goto 4, 3) := by decide +kernel
theorem dX8_isTold_27 : decode cX8_isTold 27 = .ok (.iconst 0, 1) := by decide +kernel
theorem dX8_isTold_28 : decode cX8_isTold 28 = .ok (.ireturn, 1) := by decide +kernel
theorem dX8_role_0 : decode cX8_role 0 = .ok (.aload_n 0, 1) := by decide +kernel
theorem dX8_role_1 : decode cX8_role 1 = .ok (.iload_n 1, 1) := by decide +kernel
theorem dX8_role_2 : decode cX8_role 2 = .ok (.invokevirtual 138, 3) := by decide +kernel
theorem dX8_role_5 : decode cX8_role 5 = .ok (.ifCond .eq 12, 3) := by decide +kernel
theorem dX8_role_8 : decode cX8_role 8 = .ok (.aload_n 0, 1) := by decide +kernel
theorem dX8_role_9 : decode cX8_role 9 = .ok (.getfield 13, 3) := by decide +kernel
theorem dX8_role_12 : decode cX8_role 12 = .ok (.iload_n 1, 1) := by decide +kernel
theorem dX8_role_13 : decode cX8_role 13 = .ok (.iaload, 1) := by decide +kernel
theorem dX8_role_14 : decode cX8_role 14 = .ok (.goto 4, 3) := by decide +kernel
theorem dX8_role_17 : decode cX8_role 17 = .ok (.iconst 0, 1) := by decide +kernel
theorem dX8_role_18 : decode cX8_role 18 = .ok (.ireturn, 1) := by decide +kernel
theorem dX8_term_0 : decode cX8_term 0 = .ok (.aload_n 0, 1) := by decide +kernel
theorem dX8_term_1 : decode cX8_term 1 = .ok (.iload_n 1, 1) := by decide +kernel
theorem dX8_term_2 : decode cX8_term 2 = .ok (.invokevirtual 138, 3) := by decide +kernel
theorem dX8_term_5 : decode cX8_term 5 = .ok (.ifCond .eq 12, 3) := by decide +kernel
theorem dX8_term_8 : decode cX8_term 8 = .ok (.aload_n 0, 1) := by decide +kernel
theorem dX8_term_9 : decode cX8_term 9 = .ok (.getfield 7, 3) := by decide +kernel
theorem dX8_term_12 : decode cX8_term 12 = .ok (.iload_n 1, 1) := by decide +kernel
theorem dX8_term_13 : decode cX8_term 13 = .ok (.iaload, 1) := by decide +kernel
theorem dX8_term_14 : decode cX8_term 14 = .ok (.goto 4, 3) := by decide +kernel
theorem dX8_term_17 : decode cX8_term 17 = .ok (.iconst 0, 1) := by decide +kernel
theorem dX8_term_18 : decode cX8_term 18 = .ok (.ireturn, 1) := by decide +kernel
theorem dX8_votedFor_0 : decode cX8_votedFor 0 = .ok (.aload_n 0, 1) := by decide +kernel
theorem dX8_votedFor_1 : decode cX8_votedFor 1 = .ok (.iload_n 1, 1) := by decide +kernel
theorem dX8_votedFor_2 : decode cX8_votedFor 2 = .ok (.invokevirtual 138, 3) := by decide +kernel
theorem dX8_votedFor_5 : decode cX8_votedFor 5 = .ok (.ifCond .eq 14, 3) := by decide +kernel
theorem dX8_votedFor_8 : decode cX8_votedFor 8 = .ok (.aload_n 0, 1) := by decide +kernel
theorem dX8_votedFor_9 : decode cX8_votedFor 9 = .ok (.getfield 16, 3) := by decide +kernel
theorem dX8_votedFor_12 : decode cX8_votedFor 12 = .ok (.iload_n 1, 1) := by decide +kernel
theorem dX8_votedFor_13 : decode cX8_votedFor 13 = .ok (.iaload, 1) := by decide +kernel
theorem dX8_votedFor_14 : decode cX8_votedFor 14 = .ok (.iconst 1, 1) := by decide +kernel
theorem dX8_votedFor_15 : decode cX8_votedFor 15 = .ok (.isub, 1) := by decide +kernel
theorem dX8_votedFor_16 : decode cX8_votedFor 16 = .ok (.goto 4, 3) := by decide +kernel
theorem dX8_votedFor_19 : decode cX8_votedFor 19 = .ok (.iconst 0, 1) := by decide +kernel
theorem dX8_votedFor_20 : decode cX8_votedFor 20 = .ok (.ireturn, 1) := by decide +kernel
theorem dX8_reach_0 : decode cX8_reach 0 = .ok (.aload_n 0, 1) := by decide +kernel
theorem dX8_reach_1 : decode cX8_reach 1 = .ok (.iload_n 1, 1) := by decide +kernel
theorem dX8_reach_2 : decode cX8_reach 2 = .ok (.invokestatic 93, 3) := by decide +kernel
theorem dX8_reach_5 : decode cX8_reach 5 = .ok (.ifCond .eq 14, 3) := by decide +kernel
theorem dX8_reach_8 : decode cX8_reach 8 = .ok (.iload_n 2, 1) := by decide +kernel
theorem dX8_reach_9 : decode cX8_reach 9 = .ok (.invokestatic 93, 3) := by decide +kernel
theorem dX8_reach_12 : decode cX8_reach 12 = .ok (.ifCond .eq 7, 3) := by decide +kernel
theorem dX8_reach_15 : decode cX8_reach 15 = .ok (.iconst 0, 1) := by decide +kernel
theorem dX8_reach_16 : decode cX8_reach 16 = .ok (.goto 4, 3) := by decide +kernel
theorem dX8_reach_19 : decode cX8_reach 19 = .ok (.iconst 1, 1) := by decide +kernel
theorem dX8_reach_20 : decode cX8_reach 20 = .ok (.putfield 82, 3) := by decide +kernel
theorem dX8_reach_23 : decode cX8_reach 23 = .ok (.aload_n 0, 1) := by decide +kernel
theorem dX8_reach_24 : decode cX8_reach 24 = .ok (.getfield 82, 3) := by decide +kernel
theorem dX8_reach_27 : decode cX8_reach 27 = .ok (.ifCond .ne 16, 3) := by decide +kernel
theorem dX8_reach_30 : decode cX8_reach 30 = .ok (.aload_n 0, 1) := by decide +kernel
theorem dX8_reach_31 : decode cX8_reach 31 = .ok (.iload_n 1, 1) := by decide +kernel
theorem dX8_reach_32 : decode cX8_reach 32 = .ok (.iload_n 2, 1) := by decide +kernel
theorem dX8_reach_33 : decode cX8_reach 33 = .ok (.invokevirtual 105, 3) := by decide +kernel
theorem dX8_reach_36 : decode cX8_reach 36 = .ok (.ifCond .eq 7, 3) := by decide +kernel
theorem dX8_reach_39 : decode cX8_reach 39 = .ok (.iconst 1, 1) := by decide +kernel
theorem dX8_reach_40 : decode cX8_reach 40 = .ok (.goto 4, 3) := by decide +kernel
theorem dX8_reach_43 : decode cX8_reach 43 = .ok (.iconst 0, 1) := by decide +kernel
theorem dX8_reach_44 : decode cX8_reach 44 = .ok (.ireturn, 1) := by decide +kernel
theorem dX8_entries_0 : decode cX8_entries 0 = .ok (.aload_n 0, 1) := by decide +kernel
theorem dX8_entries_1 : decode cX8_entries 1 = .ok (.iload_n 1, 1) := by decide +kernel
theorem dX8_entries_2 : decode cX8_entries 2 = .ok (.invokevirtual 138, 3) := by decide +kernel
theorem dX8_entries_5 : decode cX8_entries 5 = .ok (.ifCond .eq 12, 3) := by decide +kernel
theorem dX8_entries_8 : decode cX8_entries 8 = .ok (.aload_n 0, 1) := by decide +kernel
theorem dX8_entries_9 : decode cX8_entries 9 = .ok (.getfield 25, 3) := by decide +kernel
theorem dX8_entries_12 : decode cX8_entries 12 = .ok (.iload_n 1, 1) := by decide +kernel
theorem dX8_entries_13 : decode cX8_entries 13 = .ok (.iaload, 1) := by decide +kernel
theorem dX8_entries_14 : decode cX8_entries 14 = .ok (.goto 4, 3) := by decide +kernel
theorem dX8_entries_17 : decode cX8_entries 17 = .ok (.iconst 0, 1) := by decide +kernel
theorem dX8_entries_18 : decode cX8_entries 18 = .ok (.ireturn, 1) := by decide +kernel
theorem dX8_versionAt_0 : decode cX8_versionAt 0 = .ok (.aload_n 0, 1) := by decide +kernel
theorem dX8_versionAt_1 : decode cX8_versionAt 1 = .ok (.iload_n 1, 1) := by decide +kernel
theorem dX8_versionAt_2 : decode cX8_versionAt 2 = .ok (.invokestatic 93, 3) := by decide +kernel
theorem dX8_versionAt_5 : decode cX8_versionAt 5 = .ok (.ifCond .eq 19, 3) := by decide +kernel
theorem dX8_versionAt_8 : decode cX8_versionAt 8 = .ok (.iload_n 2, 1) := by decide +kernel
theorem dX8_versionAt_9 : decode cX8_versionAt 9 = .ok (.iconst 0, 1) := by decide +kernel
theorem dX8_versionAt_10 : decode cX8_versionAt 10 = .ok (.aload_n 0, 1) := by decide +kernel
theorem dX8_versionAt_11 : decode cX8_versionAt 11 = .ok (.getfield 25, 3) := by decide +kernel
theorem dX8_versionAt_14 : decode cX8_versionAt 14 = .ok (.iload_n 1, 1) := by decide +kernel
theorem dX8_versionAt_15 : decode cX8_versionAt 15 = .ok (.iaload, 1) := by decide +kernel
theorem dX8_versionAt_16 : decode cX8_versionAt 16 = .ok (.iconst 1, 1) := by decide +kernel
theorem dX8_versionAt_17 : decode cX8_versionAt 17 = .ok (.isub, 1) := by decide +kernel
theorem dX8_versionAt_18 : decode cX8_versionAt 18 = .ok (.invokestatic 86, 3) := by decide +kernel
theorem dX8_versionAt_21 : decode cX8_versionAt 21 = .ok (.ifCond .ne 7, 3) := by decide +kernel
theorem dX8_versionAt_24 : decode cX8_versionAt 24 = .ok (.iconst 1, 1) := by decide +kernel
theorem dX8_versionAt_25 : decode cX8_versionAt 25 = .ok (.goto 4, 3) := by decide +kernel
theorem dX8_versionAt_28 : decode cX8_versionAt 28 = .ok (.iconst 0, 1) := by decide +kernel
theorem dX8_versionAt_29 : decode cX8_versionAt 29 = .ok (.putfield 82, 3) := by decide +kernel
theorem dX8_versionAt_32 : decode cX8_versionAt 32 = .ok (.aload_n 0, 1) := by decide +kernel
theorem dX8_versionAt_33 : decode cX8_versionAt 33 = .ok (.getfield 82, 3) := by decide +kernel
theorem dX8_versionAt_36 : decode cX8_versionAt 36 = .ok (.ifCond .ne 17, 3) := by decide +kernel
theorem dX8_versionAt_39 : decode cX8_versionAt 39 = .ok (.aload_n 0, 1) := by decide +kernel
theorem dX8_versionAt_40 : decode cX8_versionAt 40 = .ok (.getfield 22, 3) := by decide +kernel
theorem dX8_versionAt_43 : decode cX8_versionAt 43 = .ok (.bipush 20, 2) := by decide +kernel
theorem dX8_versionAt_45 : decode cX8_versionAt 45 = .ok (.iload_n 1, 1) := by decide +kernel
theorem dX8_versionAt_46 : decode cX8_versionAt 46 = .ok (.imul, 1) := by decide +kernel
theorem dX8_versionAt_47 : decode cX8_versionAt 47 = .ok (.iload_n 2, 1) := by decide +kernel
theorem dX8_versionAt_48 : decode cX8_versionAt 48 = .ok (.iadd, 1) := by decide +kernel
theorem dX8_versionAt_49 : decode cX8_versionAt 49 = .ok (.iaload, 1) := by decide +kernel
theorem dX8_versionAt_50 : decode cX8_versionAt 50 = .ok (.goto 4, 3) := by decide +kernel
theorem dX8_versionAt_53 : decode cX8_versionAt 53 = .ok (.iconst 0, 1) := by decide +kernel
theorem dX8_versionAt_54 : decode cX8_versionAt 54 = .ok (.ireturn, 1) := by decide +kernel
theorem dX8_versions_0 : decode cX8_versions 0 = .ok (.aload_n 0, 1) := by decide +kernel
theorem dX8_versions_1 : decode cX8_versions 1 = .ok (.iconst 0, 1) := by decide +kernel
theorem dX8_versions_2 : decode cX8_versions 2 = .ok (.putfield 82, 3) := by decide +kernel
theorem dX8_versions_5 : decode cX8_versions 5 = .ok (.aload_n 0, 1) := by decide +kernel
theorem dX8_versions_6 : decode cX8_versions 6 = .ok (.getfield 116, 3) := by decide +kernel
theorem dX8_versions_9 : decode cX8_versions 9 = .ok (.ireturn, 1) := by decide +kernel
theorem dX8_isVersion_0 : decode cX8_isVersion 0 = .ok (.aload_n 0, 1) := by decide +kernel
theorem dX8_isVersion_1 : decode cX8_isVersion 1 = .ok (.iload_n 1, 1) := by decide +kernel
theorem dX8_isVersion_2 : decode cX8_isVersion 2 = .ok (.iconst 0, 1) := by decide +kernel
theorem dX8_isVersion_3 : decode cX8_isVersion 3 = .ok (.aload_n 0, 1) := by decide +kernel
theorem dX8_isVersion_4 : decode cX8_isVersion 4 = .ok (.getfield 116, 3) := by decide +kernel
theorem dX8_isVersion_7 : decode cX8_isVersion 7 = .ok (.iconst 1, 1) := by decide +kernel
theorem dX8_isVersion_8 : decode cX8_isVersion 8 = .ok (.isub, 1) := by decide +kernel
theorem dX8_isVersion_9 : decode cX8_isVersion 9 = .ok (.invokestatic 86, 3) := by decide +kernel
theorem dX8_isVersion_12 : decode cX8_isVersion 12 = .ok (.ifCond .eq 7, 3) := by decide +kernel
theorem dX8_isVersion_15 : decode cX8_isVersion 15 = .ok (.iconst 0, 1) := by decide +kernel
theorem dX8_isVersion_16 : decode cX8_isVersion 16 = .ok (.goto 4, 3) := by decide +kernel
theorem dX8_isVersion_19 : decode cX8_isVersion 19 = .ok (.iconst 1, 1) := by decide +kernel
theorem dX8_isVersion_20 : decode cX8_isVersion 20 = .ok (.putfield 82, 3) := by decide +kernel
theorem dX8_isVersion_23 : decode cX8_isVersion 23 = .ok (.aload_n 0, 1) := by decide +kernel
theorem dX8_isVersion_24 : decode cX8_isVersion 24 = .ok (.getfield 82, 3) := by decide +kernel
theorem dX8_isVersion_27 : decode cX8_isVersion 27 = .ok (.ifCond .ne 7, 3) := by decide +kernel
theorem dX8_isVersion_30 : decode cX8_isVersion 30 = .ok (.iconst 1, 1) := by decide +kernel
theorem dX8_isVersion_31 : decode cX8_isVersion 31 = .ok (.goto 4, 3) := by decide +kernel
theorem dX8_isVersion_34 : decode cX8_isVersion 34 = .ok (.iconst 0, 1) := by decide +kernel
theorem dX8_isVersion_35 : decode cX8_isVersion 35 = .ok (.ireturn, 1) := by decide +kernel
theorem dX8_termOf_0 : decode cX8_termOf 0 = .ok (.aload_n 0, 1) := by decide +kernel
theorem dX8_termOf_1 : decode cX8_termOf 1 = .ok (.iload_n 1, 1) := by decide +kernel
theorem dX8_termOf_2 : decode cX8_termOf 2 = .ok (.invokevirtual 141, 3) := by decide +kernel
theorem dX8_termOf_5 : decode cX8_termOf 5 = .ok (.ifCond .eq 12, 3) := by decide +kernel
theorem dX8_termOf_8 : decode cX8_termOf 8 = .ok (.aload_n 0, 1) := by decide +kernel
theorem dX8_termOf_9 : decode cX8_termOf 9 = .ok (.getfield 28, 3) := by decide +kernel
theorem dX8_termOf_12 : decode cX8_termOf 12 = .ok (.iload_n 1, 1) := by decide +kernel
theorem dX8_termOf_13 : decode cX8_termOf 13 = .ok (.iaload, 1) := by decide +kernel
theorem dX8_termOf_14 : decode cX8_termOf 14 = .ok (.goto 4, 3) := by decide +kernel
theorem dX8_termOf_17 : decode cX8_termOf 17 = .ok (.iconst 0, 1) := by decide +kernel
theorem dX8_termOf_18 : decode cX8_termOf 18 = .ok (.ireturn, 1) := by decide +kernel
theorem dX8_holders_0 : decode cX8_holders 0 = .ok (.aload_n 0, 1) := by decide +kernel
theorem dX8_holders_1 : decode cX8_holders 1 = .ok (.iload_n 1, 1) := by decide +kernel
theorem dX8_holders_2 : decode cX8_holders 2 = .ok (.invokevirtual 141, 3) := by decide +kernel
theorem dX8_holders_5 : decode cX8_holders 5 = .ok (.ifCond .eq 11, 3) := by decide +kernel
theorem dX8_holders_8 : decode cX8_holders 8 = .ok (.aload_n 0, 1) := by decide +kernel
theorem dX8_holders_9 : decode cX8_holders 9 = .ok (.iload_n 1, 1) := by decide +kernel
theorem dX8_holders_10 : decode cX8_holders 10 = .ok (.invokevirtual 119, 3) := by decide +kernel
theorem dX8_holders_13 : decode cX8_holders 13 = .ok (.goto 4, 3) := by decide +kernel
theorem dX8_holders_16 : decode cX8_holders 16 = .ok (.iconst 0, 1) := by decide +kernel
theorem dX8_holders_17 : decode cX8_holders 17 = .ok (.ireturn, 1) := by decide +kernel
theorem dX8_isHeld_0 : decode cX8_isHeld 0 = .ok (.aload_n 0, 1) := by decide +kernel
theorem dX8_isHeld_1 : decode cX8_isHeld 1 = .ok (.iload_n 1, 1) := by decide +kernel
theorem dX8_isHeld_2 : decode cX8_isHeld 2 = .ok (.invokevirtual 141, 3) := by decide +kernel
theorem dX8_isHeld_5 : decode cX8_isHeld 5 = .ok (.ifCond .eq 15, 3) := by decide +kernel
theorem dX8_isHeld_8 : decode cX8_isHeld 8 = .ok (.aload_n 0, 1) := by decide +kernel
theorem dX8_isHeld_9 : decode cX8_isHeld 9 = .ok (.iload_n 1, 1) := by decide +kernel
theorem dX8_isHeld_10 : decode cX8_isHeld 10 = .ok (.invokevirtual 125, 3) := by decide +kernel
theorem dX8_isHeld_13 : decode cX8_isHeld 13 = .ok (.ifCond .eq 7, 3) := by decide +kernel
theorem dX8_isHeld_16 : decode cX8_isHeld 16 = .ok (.iconst 1, 1) := by decide +kernel
theorem dX8_isHeld_17 : decode cX8_isHeld 17 = .ok (.goto 4, 3) := by decide +kernel
theorem dX8_isHeld_20 : decode cX8_isHeld 20 = .ok (.iconst 0, 1) := by decide +kernel
theorem dX8_isHeld_21 : decode cX8_isHeld 21 = .ok (.ireturn, 1) := by decide +kernel
theorem dX8_wasHeld_0 : decode cX8_wasHeld 0 = .ok (.aload_n 0, 1) := by decide +kernel
theorem dX8_wasHeld_1 : decode cX8_wasHeld 1 = .ok (.iload_n 1, 1) := by decide +kernel
theorem dX8_wasHeld_2 : decode cX8_wasHeld 2 = .ok (.invokevirtual 141, 3) := by decide +kernel
theorem dX8_wasHeld_5 : decode cX8_wasHeld 5 = .ok (.ifCond .eq 25, 3) := by decide +kernel
theorem dX8_wasHeld_8 : decode cX8_wasHeld 8 = .ok (.aload_n 0, 1) := by decide +kernel
theorem dX8_wasHeld_9 : decode cX8_wasHeld 9 = .ok (.getfield 40, 3) := by decide +kernel
theorem dX8_wasHeld_12 : decode cX8_wasHeld 12 = .ok (.iload_n 1, 1) := by decide +kernel
theorem dX8_wasHeld_13 : decode cX8_wasHeld 13 = .ok (.iaload, 1) := by decide +kernel
theorem dX8_wasHeld_14 : decode cX8_wasHeld 14 = .ok (.iconst 1, 1) := by decide +kernel
theorem dX8_wasHeld_15 : decode cX8_wasHeld 15 = .ok (.if_icmp .eq 11, 3) := by decide +kernel
theorem dX8_wasHeld_18 : decode cX8_wasHeld 18 = .ok (.aload_n 0, 1) := by decide +kernel
theorem dX8_wasHeld_19 : decode cX8_wasHeld 19 = .ok (.iload_n 1, 1) := by decide +kernel
theorem dX8_wasHeld_20 : decode cX8_wasHeld 20 = .ok (.invokevirtual 125, 3) := by decide +kernel
theorem dX8_wasHeld_23 : decode cX8_wasHeld 23 = .ok (.ifCond .eq 7, 3) := by decide +kernel
theorem dX8_wasHeld_26 : decode cX8_wasHeld 26 = .ok (.iconst 1, 1) := by decide +kernel
theorem dX8_wasHeld_27 : decode cX8_wasHeld 27 = .ok (.goto 4, 3) := by decide +kernel
theorem dX8_wasHeld_30 : decode cX8_wasHeld 30 = .ok (.iconst 0, 1) := by decide +kernel
theorem dX8_wasHeld_31 : decode cX8_wasHeld 31 = .ok (.ireturn, 1) := by decide +kernel
theorem dX8_currentOf_0 : decode cX8_currentOf 0 = .ok (.iconst (-1), 1) := by decide +kernel
theorem dX8_currentOf_1 : decode cX8_currentOf 1 = .ok (.istore_n 3, 1) := by decide +kernel
theorem dX8_currentOf_2 : decode cX8_currentOf 2 = .ok (.iconst 0, 1) := by decide +kernel
theorem dX8_currentOf_3 : decode cX8_currentOf 3 = .ok (.istore 4, 2) := by decide +kernel
theorem dX8_currentOf_5 : decode cX8_currentOf 5 = .ok (.iload 4, 2) := by decide +kernel
theorem dX8_currentOf_7 : decode cX8_currentOf 7 = .ok (.aload_n 0, 1) := by decide +kernel
theorem dX8_currentOf_8 : decode cX8_currentOf 8 = .ok (.getfield 25, 3) := by decide +kernel
theorem dX8_currentOf_11 : decode cX8_currentOf 11 = .ok (.iload_n 1, 1) := by decide +kernel
theorem dX8_currentOf_12 : decode cX8_currentOf 12 = .ok (.iaload, 1) := by decide +kernel
theorem dX8_currentOf_13 : decode cX8_currentOf 13 = .ok (.if_icmp .ge 50, 3) := by decide +kernel
theorem dX8_currentOf_16 : decode cX8_currentOf 16 = .ok (.aload_n 0, 1) := by decide +kernel
theorem dX8_currentOf_17 : decode cX8_currentOf 17 = .ok (.getfield 22, 3) := by decide +kernel
theorem dX8_currentOf_20 : decode cX8_currentOf 20 = .ok (.bipush 20, 2) := by decide +kernel
theorem dX8_currentOf_22 : decode cX8_currentOf 22 = .ok (.iload_n 1, 1) := by decide +kernel
theorem dX8_currentOf_23 : decode cX8_currentOf 23 = .ok (.imul, 1) := by decide +kernel
theorem dX8_currentOf_24 : decode cX8_currentOf 24 = .ok (.iload 4, 2) := by decide +kernel
theorem dX8_currentOf_26 : decode cX8_currentOf 26 = .ok (.iadd, 1) := by decide +kernel
