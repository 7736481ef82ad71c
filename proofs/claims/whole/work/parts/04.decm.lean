theorem dX7_init_0 : decode cX7_init 0 = .ok (.aload_n 0, 1) := by decide +kernel
theorem dX7_init_1 : decode cX7_init 1 = .ok (.invokespecial 3, 3) := by decide +kernel
theorem dX7_init_4 : decode cX7_init 4 = .ok (.aload_n 0, 1) := by decide +kernel
theorem dX7_init_5 : decode cX7_init 5 = .ok (.sipush 221, 3) := by decide +kernel
theorem dX7_init_8 : decode cX7_init 8 = .ok (.newarray .int, 2) := by decide +kernel
theorem dX7_init_10 : decode cX7_init 10 = .ok (.putfield 9, 3) := by decide +kernel
theorem dX7_init_13 : decode cX7_init 13 = .ok (.aload_n 0, 1) := by decide +kernel
theorem dX7_init_14 : decode cX7_init 14 = .ok (.sipush 221, 3) := by decide +kernel
theorem dX7_init_17 : decode cX7_init 17 = .ok (.newarray .int, 2) := by decide +kernel
theorem dX7_init_19 : decode cX7_init 19 = .ok (.putfield 13, 3) := by decide +kernel
theorem dX7_init_22 : decode cX7_init 22 = .ok (.aload_n 0, 1) := by decide +kernel
theorem dX7_init_23 : decode cX7_init 23 = .ok (.sipush 221, 3) := by decide +kernel
theorem dX7_init_26 : decode cX7_init 26 = .ok (.newarray .int, 2) := by decide +kernel
theorem dX7_init_28 : decode cX7_init 28 = .ok (.putfield 16, 3) := by decide +kernel
theorem dX7_init_31 : decode cX7_init 31 = .ok (.aload_n 0, 1) := by decide +kernel
theorem dX7_init_32 : decode cX7_init 32 = .ok (.bipush 6, 2) := by decide +kernel
theorem dX7_init_34 : decode cX7_init 34 = .ok (.newarray .int, 2) := by decide +kernel
theorem dX7_init_36 : decode cX7_init 36 = .ok (.putfield 19, 3) := by decide +kernel
theorem dX7_init_39 : decode cX7_init 39 = .ok (.aload_n 0, 1) := by decide +kernel
theorem dX7_init_40 : decode cX7_init 40 = .ok (.bipush 7, 2) := by decide +kernel
theorem dX7_init_42 : decode cX7_init 42 = .ok (.newarray .int, 2) := by decide +kernel
theorem dX7_init_44 : decode cX7_init 44 = .ok (.putfield 22, 3) := by decide +kernel
theorem dX7_init_47 : decode cX7_init 47 = .ok (.aload_n 0, 1) := by decide +kernel
theorem dX7_init_48 : decode cX7_init 48 = .ok (.iconst 2, 1) := by decide +kernel
theorem dX7_init_49 : decode cX7_init 49 = .ok (.anewarray 25, 3) := by decide +kernel
theorem dX7_init_52 : decode cX7_init 52 = .ok (.dup, 1) := by decide +kernel
theorem dX7_init_53 : decode cX7_init 53 = .ok (.iconst 0, 1) := by decide +kernel
theorem dX7_init_54 : decode cX7_init 54 = .ok (.ldc 27, 2) := by decide +kernel
theorem dX7_init_56 : decode cX7_init 56 = .ok (.aastore, 1) := by decide +kernel
theorem dX7_init_57 : decode cX7_init 57 = .ok (.dup, 1) := by decide +kernel
theorem dX7_init_58 : decode cX7_init 58 = .ok (.iconst 1, 1) := by decide +kernel
theorem dX7_init_59 : decode cX7_init 59 = .ok (.ldc 29, 2) := by decide +kernel
theorem dX7_init_61 : decode cX7_init 61 = .ok (.aastore, 1) := by decide +kernel
theorem dX7_init_62 : decode cX7_init 62 = .ok (.putfield 31, 3) := by decide +kernel
theorem dX7_init_65 : decode cX7_init 65 = .ok (.aload_n 0, 1) := by decide +kernel
theorem dX7_init_66 : decode cX7_init 66 = .ok (.bipush 60, 2) := by decide +kernel
theorem dX7_init_68 : decode cX7_init 68 = .ok (.newarray .int, 2) := by decide +kernel
theorem dX7_init_70 : decode cX7_init 70 = .ok (.putfield 35, 3) := by decide +kernel
theorem dX7_init_73 : decode cX7_init 73 = .ok (.aload_n 0, 1) := by decide +kernel
theorem dX7_init_74 : decode cX7_init 74 = .ok (.iconst 4, 1) := by decide +kernel
theorem dX7_init_75 : decode cX7_init 75 = .ok (.newarray .int, 2) := by decide +kernel
theorem dX7_init_77 : decode cX7_init 77 = .ok (.putfield 38, 3) := by decide +kernel
theorem dX7_init_80 : decode cX7_init 80 = .ok (.aload_n 0, 1) := by decide +kernel
theorem dX7_init_81 : decode cX7_init 81 = .ok (.bipush 60, 2) := by decide +kernel
theorem dX7_init_83 : decode cX7_init 83 = .ok (.newarray .int, 2) := by decide +kernel
theorem dX7_init_85 : decode cX7_init 85 = .ok (.putfield 41, 3) := by decide +kernel
theorem dX7_init_88 : decode cX7_init 88 = .ok (.aload_n 0, 1) := by decide +kernel
theorem dX7_init_89 : decode cX7_init 89 = .ok (.bipush 40, 2) := by decide +kernel
theorem dX7_init_91 : decode cX7_init 91 = .ok (.newarray .int, 2) := by decide +kernel
theorem dX7_init_93 : decode cX7_init 93 = .ok (.putfield 44, 3) := by decide +kernel
theorem dX7_init_96 : decode cX7_init 96 = .ok (.aload_n 0, 1) := by decide +kernel
theorem dX7_init_97 : decode cX7_init 97 = .ok (.iconst 4, 1) := by decide +kernel
theorem dX7_init_98 : decode cX7_init 98 = .ok (.newarray .int, 2) := by decide +kernel
theorem dX7_init_100 : decode cX7_init 100 = .ok (.putfield 47, 3) := by decide +kernel
theorem dX7_init_103 : decode cX7_init 103 = .ok (.aload_n 0, 1) := by decide +kernel
theorem dX7_init_104 : decode cX7_init 104 = .ok (.iconst 4, 1) := by decide +kernel
theorem dX7_init_105 : decode cX7_init 105 = .ok (.newarray .int, 2) := by decide +kernel
theorem dX7_init_107 : decode cX7_init 107 = .ok (.putfield 50, 3) := by decide +kernel
theorem dX7_init_110 : decode cX7_init 110 = .ok (.aload_n 0, 1) := by decide +kernel
theorem dX7_init_111 : decode cX7_init 111 = .ok (.sipush 160, 3) := by decide +kernel
theorem dX7_init_114 : decode cX7_init 114 = .ok (.newarray .int, 2) := by decide +kernel
theorem dX7_init_116 : decode cX7_init 116 = .ok (.putfield 53, 3) := by decide +kernel
theorem dX7_init_119 : decode cX7_init 119 = .ok (.aload_n 0, 1) := by decide +kernel
theorem dX7_init_120 : decode cX7_init 120 = .ok (.bipush 40, 2) := by decide +kernel
theorem dX7_init_122 : decode cX7_init 122 = .ok (.newarray .int, 2) := by decide +kernel
theorem dX7_init_124 : decode cX7_init 124 = .ok (.putfield 56, 3) := by decide +kernel
theorem dX7_init_127 : decode cX7_init 127 = .ok (.aload_n 0, 1) := by decide +kernel
theorem dX7_init_128 : decode cX7_init 128 = .ok (.getfield 9, 3) := by decide +kernel
theorem dX7_init_131 : decode cX7_init 131 = .ok (.iconst 2, 1) := by decide +kernel
theorem dX7_init_132 : decode cX7_init 132 = .ok (.iconst 1, 1) := by decide +kernel
theorem dX7_init_133 : decode cX7_init 133 = .ok (.iastore, 1) := by decide +kernel
theorem dX7_init_134 : decode cX7_init 134 = .ok (.return_, 1) := by decide +kernel
theorem dX7_finding_0 : decode cX7_finding 0 = .ok (.aload_n 0, 1) := by decide +kernel
theorem dX7_finding_1 : decode cX7_finding 1 = .ok (.getfield 19, 3) := by decide +kernel
theorem dX7_finding_4 : decode cX7_finding 4 = .ok (.ldc 59, 2) := by decide +kernel
theorem dX7_finding_6 : decode cX7_finding 6 = .ok (.iload_n 1, 1) := by decide +kernel
theorem dX7_finding_7 : decode cX7_finding 7 = .ok (.isub, 1) := by decide +kernel
theorem dX7_finding_8 : decode cX7_finding 8 = .ok (.dup2, 1) := by decide +kernel
theorem dX7_finding_9 : decode cX7_finding 9 = .ok (.iaload, 1) := by decide +kernel
theorem dX7_finding_10 : decode cX7_finding 10 = .ok (.iconst 1, 1) := by decide +kernel
theorem dX7_finding_11 : decode cX7_finding 11 = .ok (.iadd, 1) := by decide +kernel
theorem dX7_finding_12 : decode cX7_finding 12 = .ok (.iastore, 1) := by decide +kernel
theorem dX7_finding_13 : decode cX7_finding 13 = .ok (.iload_n 1, 1) := by decide +kernel
theorem dX7_finding_14 : decode cX7_finding 14 = .ok (.ireturn, 1) := by decide +kernel
theorem dX7_within_0 : decode cX7_within 0 = .ok (.iload_n 0, 1) := by decide +kernel
theorem dX7_within_1 : decode cX7_within 1 = .ok (.iload_n 1, 1) := by decide +kernel
theorem dX7_within_2 : decode cX7_within 2 = .ok (.if_icmp .lt 12, 3) := by decide +kernel
theorem dX7_within_5 : decode cX7_within 5 = .ok (.iload_n 0, 1) := by decide +kernel
theorem dX7_within_6 : decode cX7_within 6 = .ok (.iload_n 2, 1) := by decide +kernel
theorem dX7_within_7 : decode cX7_within 7 = .ok (.if_icmp .gt 7, 3) := by decide +kernel
theorem dX7_within_10 : decode cX7_within 10 = .ok (.iconst 1, 1) := by decide +kernel
theorem dX7_within_11 : decode cX7_within 11 = .ok (.goto 4, 3) := by decide +kernel
theorem dX7_within_14 : decode cX7_within 14 = .ok (.iconst 0, 1) := by decide +kernel
theorem dX7_within_15 : decode cX7_within 15 = .ok (.ireturn, 1) := by decide +kernel
theorem dX7_held_0 : decode cX7_held 0 = .ok (.iload_n 1, 1) := by decide +kernel
theorem dX7_held_1 : decode cX7_held 1 = .ok (.iload_n 2, 1) := by decide +kernel
theorem dX7_held_2 : decode cX7_held 2 = .ok (.iload_n 0, 1) := by decide +kernel
theorem dX7_held_3 : decode cX7_held 3 = .ok (.invokestatic 60, 3) := by decide +kernel
theorem dX7_held_6 : decode cX7_held 6 = .ok (.invokestatic 66, 3) := by decide +kernel
theorem dX7_held_9 : decode cX7_held 9 = .ok (.ireturn, 1) := by decide +kernel
theorem dX7_copy_0 : decode cX7_copy 0 = .ok (.iconst 0, 1) := by decide +kernel
theorem dX7_copy_1 : decode cX7_copy 1 = .ok (.istore_n 2, 1) := by decide +kernel
theorem dX7_copy_2 : decode cX7_copy 2 = .ok (.iload_n 2, 1) := by decide +kernel
theorem dX7_copy_3 : decode cX7_copy 3 = .ok (.sipush 221, 3) := by decide +kernel
theorem dX7_copy_6 : decode cX7_copy 6 = .ok (.if_icmp .ge 15, 3) := by decide +kernel
theorem dX7_copy_9 : decode cX7_copy 9 = .ok (.aload_n 1, 1) := by decide +kernel
theorem dX7_copy_10 : decode cX7_copy 10 = .ok (.iload_n 2, 1) := by decide +kernel
theorem dX7_copy_11 : decode cX7_copy 11 = .ok (.aload_n 0, 1) := by decide +kernel
theorem dX7_copy_12 : decode cX7_copy 12 = .ok (.iload_n 2, 1) := by decide +kernel
theorem dX7_copy_13 : decode cX7_copy 13 = .ok (.iaload, 1) := by decide +kernel
theorem dX7_copy_14 : decode cX7_copy 14 = .ok (.iastore, 1) := by decide +kernel
theorem dX7_copy_15 : decode cX7_copy 15 = .ok (.iinc 2 1, 3) := by decide +kernel
theorem dX7_copy_18 : decode cX7_copy 18 = .ok (.goto (-16), 3) := by decide +kernel
theorem dX7_copy_21 : decode cX7_copy 21 = .ok (.return_, 1) := by decide +kernel
theorem dX7_turn_0 : decode cX7_turn 0 = .ok (.aload_n 0, 1) := by decide +kernel
theorem dX7_turn_1 : decode cX7_turn 1 = .ok (.getfield 9, 3) := by decide +kernel
theorem dX7_turn_4 : decode cX7_turn 4 = .ok (.iload_n 1, 1) := by decide +kernel
theorem dX7_turn_5 : decode cX7_turn 5 = .ok (.iaload, 1) := by decide +kernel
theorem dX7_turn_6 : decode cX7_turn 6 = .ok (.istore_n 3, 1) := by decide +kernel
theorem dX7_turn_7 : decode cX7_turn 7 = .ok (.aload_n 0, 1) := by decide +kernel
theorem dX7_turn_8 : decode cX7_turn 8 = .ok (.getfield 9, 3) := by decide +kernel
theorem dX7_turn_11 : decode cX7_turn 11 = .ok (.iload_n 1, 1) := by decide +kernel
theorem dX7_turn_12 : decode cX7_turn 12 = .ok (.iload_n 2, 1) := by decide +kernel
theorem dX7_turn_13 : decode cX7_turn 13 = .ok (.iastore, 1) := by decide +kernel
theorem dX7_turn_14 : decode cX7_turn 14 = .ok (.iload_n 3, 1) := by decide +kernel
theorem dX7_turn_15 : decode cX7_turn 15 = .ok (.ireturn, 1) := by decide +kernel
theorem dX7_putBack_0 : decode cX7_putBack 0 = .ok (.aload_n 0, 1) := by decide +kernel
theorem dX7_putBack_1 : decode cX7_putBack 1 = .ok (.getfield 16, 3) := by decide +kernel
theorem dX7_putBack_4 : decode cX7_putBack 4 = .ok (.aload_n 0, 1) := by decide +kernel
theorem dX7_putBack_5 : decode cX7_putBack 5 = .ok (.getfield 9, 3) := by decide +kernel
theorem dX7_putBack_8 : decode cX7_putBack 8 = .ok (.invokestatic 69, 3) := by decide +kernel
theorem dX7_putBack_11 : decode cX7_putBack 11 = .ok (.iload_n 1, 1) := by decide +kernel
theorem dX7_putBack_12 : decode cX7_putBack 12 = .ok (.ireturn, 1) := by decide +kernel
theorem dX7_feed_0 : decode cX7_feed 0 = .ok (.iload_n 3, 1) := by decide +kernel
theorem dX7_feed_1 : decode cX7_feed 1 = .ok (.iconst 1, 1) := by decide +kernel
theorem dX7_feed_2 : decode cX7_feed 2 = .ok (.bipush 8, 2) := by decide +kernel
theorem dX7_feed_4 : decode cX7_feed 4 = .ok (.invokestatic 73, 3) := by decide +kernel
theorem dX7_feed_7 : decode cX7_feed 7 = .ok (.ifCond .ne 10, 3) := by decide +kernel
theorem dX7_feed_10 : decode cX7_feed 10 = .ok (.aload_n 0, 1) := by decide +kernel
theorem dX7_feed_11 : decode cX7_feed 11 = .ok (.ldc 77, 2) := by decide +kernel
theorem dX7_feed_13 : decode cX7_feed 13 = .ok (.invokevirtual 78, 3) := by decide +kernel
theorem dX7_feed_16 : decode cX7_feed 16 = .ok (.ireturn, 1) := by decide +kernel
theorem dX7_feed_17 : decode cX7_feed 17 = .ok (.aload_n 0, 1) := by decide +kernel
theorem dX7_feed_18 : decode cX7_feed 18 = .ok (.getfield 9, 3) := by decide +kernel
theorem dX7_feed_21 : decode cX7_feed 21 = .ok (.iconst 3, 1) := by decide +kernel
theorem dX7_feed_22 : decode cX7_feed 22 = .ok (.iaload, 1) := by decide +kernel
theorem dX7_feed_23 : decode cX7_feed 23 = .ok (.iload_n 3, 1) := by decide +kernel
theorem dX7_feed_24 : decode cX7_feed 24 = .ok (.iadd, 1) := by decide +kernel
theorem dX7_feed_25 : decode cX7_feed 25 = .ok (.bipush 50, 2) := by decide +kernel
theorem dX7_feed_27 : decode cX7_feed 27 = .ok (.if_icmp .le 10, 3) := by decide +kernel
theorem dX7_feed_30 : decode cX7_feed 30 = .ok (.aload_n 0, 1) := by decide +kernel
theorem dX7_feed_31 : decode cX7_feed 31 = .ok (.ldc 82, 2) := by decide +kernel
theorem dX7_feed_33 : decode cX7_feed 33 = .ok (.invokevirtual 78, 3) := by decide +kernel
theorem dX7_feed_36 : decode cX7_feed 36 = .ok (.ireturn, 1) := by decide +kernel
theorem dX7_feed_37 : decode cX7_feed 37 = .ok (.iconst 0, 1) := by decide +kernel
theorem dX7_feed_38 : decode cX7_feed 38 = .ok (.istore 4, 2) := by decide +kernel
theorem dX7_feed_40 : decode cX7_feed 40 = .ok (.iload 4, 2) := by decide +kernel
theorem dX7_feed_42 : decode cX7_feed 42 = .ok (.iload_n 3, 1) := by decide +kernel
theorem dX7_feed_43 : decode cX7_feed 43 = .ok (.if_icmp .ge 45, 3) := by decide +kernel
theorem dX7_feed_46 : decode cX7_feed 46 = .ok (.aload_n 0, 1) := by decide +kernel
theorem dX7_feed_47 : decode cX7_feed 47 = .ok (.getfield 9, 3) := by decide +kernel
theorem dX7_feed_50 : decode cX7_feed 50 = .ok (.bipush 47, 2) := by decide +kernel
theorem dX7_feed_52 : decode cX7_feed 52 = .ok (.aload_n 0, 1) := by decide +kernel
theorem dX7_feed_53 : decode cX7_feed 53 = .ok (.getfield 9, 3) := by decide +kernel
theorem dX7_feed_56 : decode cX7_feed 56 = .ok (.iconst 3, 1) := by decide +kernel
theorem dX7_feed_57 : decode cX7_feed 57 = .ok (.iaload, 1) := by decide +kernel
theorem dX7_feed_58 : decode cX7_feed 58 = .ok (.iadd, 1) := by decide +kernel
theorem dX7_feed_59 : decode cX7_feed 59 = .ok (.lload_n 1, 1) := by decide +kernel
theorem dX7_feed_60 : decode cX7_feed 60 = .ok (.bipush 8, 2) := by decide +kernel
theorem dX7_feed_62 : decode cX7_feed 62 = .ok (.iload 4, 2) := by decide +kernel
theorem dX7_feed_64 : decode cX7_feed 64 = .ok (.imul, 1) := by decide +kernel
theorem dX7_feed_65 : decode cX7_feed 65 = .ok (.lshr, 1) := by decide +kernel
theorem dX7_feed_66 : decode cX7_feed 66 = .ok (.ldc2_w 83, 3) := by decide +kernel
theorem dX7_feed_69 : decode cX7_feed 69 = .ok (.land, 1) := by decide +kernel
theorem dX7_feed_70 : decode cX7_feed 70 = .ok (.l2i, 1) := by decide +kernel
theorem dX7_feed_71 : decode cX7_feed 71 = .ok (.iastore, 1) := by decide +kernel
theorem dX7_feed_72 : decode cX7_feed 72 = .ok (.aload_n 0, 1) := by decide +kernel
theorem dX7_feed_73 : decode cX7_feed 73 = .ok (.getfield 9, 3) := by decide +kernel
theorem dX7_feed_76 : decode cX7_feed 76 = .ok (.iconst 3, 1) := by decide +kernel
theorem dX7_feed_77 : decode cX7_feed 77 = .ok (.dup2, 1) := by decide +kernel
theorem dX7_feed_78 : decode cX7_feed 78 = .ok (.iaload, 1) := by decide +kernel
theorem dX7_feed_79 : decode cX7_feed 79 = .ok (.iconst 1, 1) := by decide +kernel
theorem dX7_feed_80 : decode cX7_feed 80 = .ok (.iadd, 1) := by decide +kernel
theorem dX7_feed_81 : decode cX7_feed 81 = .ok (.iastore, 1) := by decide +kernel
theorem dX7_feed_82 : decode cX7_feed 82 = .ok (.iinc 4 1, 3) := by decide +kernel
theorem dX7_feed_85 : decode cX7_feed 85 = .ok (.goto (-45), 3) := by decide +kernel
theorem dX7_feed_88 : decode cX7_feed 88 = .ok (.aload_n 0, 1) := by decide +kernel
theorem dX7_feed_89 : decode cX7_feed 89 = .ok (.getfield 9, 3) := by decide +kernel
theorem dX7_feed_92 : decode cX7_feed 92 = .ok (.iconst 3, 1) := by decide +kernel
theorem dX7_feed_93 : decode cX7_feed 93 = .ok (.iaload, 1) := by decide +kernel
theorem dX7_feed_94 : decode cX7_feed 94 = .ok (.ireturn, 1) := by decide +kernel
theorem dX7_here_0 : decode cX7_here 0 = .ok (.aload_n 0, 1) := by decide +kernel
theorem dX7_here_1 : decode cX7_here 1 = .ok (.getfield 85, 3) := by decide +kernel
theorem dX7_here_4 : decode cX7_here 4 = .ok (.ifCond .ne 31, 3) := by decide +kernel
theorem dX7_here_7 : decode cX7_here 7 = .ok (.aload_n 0, 1) := by decide +kernel
theorem dX7_here_8 : decode cX7_here 8 = .ok (.getfield 89, 3) := by decide +kernel
theorem dX7_here_11 : decode cX7_here 11 = .ok (.aload_n 0, 1) := by decide +kernel
theorem dX7_here_12 : decode cX7_here 12 = .ok (.getfield 9, 3) := by decide +kernel
theorem dX7_here_15 : decode cX7_here 15 = .ok (.iconst 3, 1) := by decide +kernel
theorem dX7_here_16 : decode cX7_here 16 = .ok (.iaload, 1) := by decide +kernel
theorem dX7_here_17 : decode cX7_here 17 = .ok (.if_icmp .ge 18, 3) := by decide +kernel
theorem dX7_here_20 : decode cX7_here 20 = .ok (.aload_n 0, 1) := by decide +kernel
theorem dX7_here_21 : decode cX7_here 21 = .ok (.getfield 9, 3) := by decide +kernel
theorem dX7_here_24 : decode cX7_here 24 = .ok (.bipush 47, 2) := by decide +kernel
theorem dX7_here_26 : decode cX7_here 26 = .ok (.aload_n 0, 1) := by decide +kernel
theorem dX7_here_27 : decode cX7_here 27 = .ok (.getfield 89, 3) := by decide +kernel
theorem dX7_here_30 : decode cX7_here 30 = .ok (.iadd, 1) := by decide +kernel
theorem dX7_here_31 : decode cX7_here 31 = .ok (.iaload, 1) := by decide +kernel
theorem dX7_here_32 : decode cX7_here 32 = .ok (.goto 4, 3) := by decide +kernel
theorem dX7_here_35 : decode cX7_here 35 = .ok (.iconst (-1), 1) := by decide +kernel
theorem dX7_here_36 : decode cX7_here 36 = .ok (.ireturn, 1) := by decide +kernel
theorem dX7_takes_0 : decode cX7_takes 0 = .ok (.aload_n 0, 1) := by decide +kernel
theorem dX7_takes_1 : decode cX7_takes 1 = .ok (.invokevirtual 93, 3) := by decide +kernel
theorem dX7_takes_4 : decode cX7_takes 4 = .ok (.iload_n 1, 1) := by decide +kernel
theorem dX7_takes_5 : decode cX7_takes 5 = .ok (.if_icmp .ne 7, 3) := by decide +kernel
theorem dX7_takes_8 : decode cX7_takes 8 = .ok (.iconst 1, 1) := by decide +kernel
theorem dX7_takes_9 : decode cX7_takes 9 = .ok (.goto 4, 3) := by decide +kernel
theorem dX7_takes_12 : decode cX7_takes 12 = .ok (.iconst 0, 1) := by decide +kernel
theorem dX7_takes_13 : decode cX7_takes 13 = .ok (.istore_n 2, 1) := by decide +kernel
theorem dX7_takes_14 : decode cX7_takes 14 = .ok (.aload_n 0, 1) := by decide +kernel
theorem dX7_takes_15 : decode cX7_takes 15 = .ok (.dup, 1) := by decide +kernel
theorem dX7_takes_16 : decode cX7_takes 16 = .ok (.getfield 89, 3) := by decide +kernel
theorem dX7_takes_19 : decode cX7_takes 19 = .ok (.iload_n 2, 1) := by decide +kernel
theorem dX7_takes_20 : decode cX7_takes 20 = .ok (.ifCond .eq 7, 3) := by decide +kernel
theorem dX7_takes_23 : decode cX7_takes 23 = .ok (.iconst 1, 1) := by decide +kernel
theorem dX7_takes_24 : decode cX7_takes 24 = .ok (.goto 4, 3) := by decide +kernel
theorem dX7_takes_27 : decode cX7_takes 27 = .ok (.iconst 0, 1) := by decide +kernel
theorem dX7_takes_28 : decode cX7_takes 28 = .ok (.iadd, 1) := by decide +kernel
theorem dX7_takes_29 : decode cX7_takes 29 = .ok (.putfield 89, 3) := by decide +kernel
theorem dX7_takes_32 : decode cX7_takes 32 = .ok (.iload_n 2, 1) := by decide +kernel
theorem dX7_takes_33 : decode cX7_takes 33 = .ok (.ireturn, 1) := by decide +kernel
theorem dX7_codes_0 : decode cX7_codes 0 = .ok (.aload_n 0, 1) := by decide +kernel
theorem dX7_codes_1 : decode cX7_codes 1 = .ok (.getfield 85, 3) := by decide +kernel
theorem dX7_codes_4 : decode cX7_codes 4 = .ok (.ifCond .ne 23, 3) := by decide +kernel
theorem dX7_codes_7 : decode cX7_codes 7 = .ok (.aload_n 0, 1) := by decide +kernel
theorem dX7_codes_8 : decode cX7_codes 8 = .ok (.getfield 35, 3) := by decide +kernel
theorem dX7_codes_11 : decode cX7_codes 11 = .ok (.aload_n 0, 1) := by decide +kernel
theorem dX7_codes_12 : decode cX7_codes 12 = .ok (.getfield 97, 3) := by decide +kernel
theorem dX7_codes_15 : decode cX7_codes 15 = .ok (.iload_n 1, 1) := by decide +kernel
theorem dX7_codes_16 : decode cX7_codes 16 = .ok (.iastore, 1) := by decide +kernel
theorem dX7_codes_17 : decode cX7_codes 17 = .ok (.aload_n 0, 1) := by decide +kernel
theorem dX7_codes_18 : decode cX7_codes 18 = .ok (.dup, 1) := by decide +kernel
theorem dX7_codes_19 : decode cX7_codes 19 = .ok (.getfield 97, 3) := by decide +kernel
theorem dX7_codes_22 : decode cX7_codes 22 = .ok (.iconst 1, 1) := by decide +kernel
theorem dX7_codes_23 : decode cX7_codes 23 = .ok (.iadd, 1) := by decide +kernel
theorem dX7_codes_24 : decode cX7_codes 24 = .ok (.putfield 97, 3) := by decide +kernel
theorem dX7_codes_27 : decode cX7_codes 27 = .ok (.return_, 1) := by decide +kernel
theorem dX7_either_0 : decode cX7_either 0 = .ok (.aload_n 0, 1) := by decide +kernel
theorem dX7_either_1 : decode cX7_either 1 = .ok (.invokevirtual 100, 3) := by decide +kernel
theorem dX7_either_4 : decode cX7_either 4 = .ok (.aload_n 0, 1) := by decide +kernel
theorem dX7_either_5 : decode cX7_either 5 = .ok (.bipush 124, 2) := by decide +kernel
theorem dX7_either_7 : decode cX7_either 7 = .ok (.invokevirtual 103, 3) := by decide +kernel
theorem dX7_either_10 : decode cX7_either 10 = .ok (.ifCond .eq 17, 3) := by decide +kernel
theorem dX7_either_13 : decode cX7_either 13 = .ok (.aload_n 0, 1) := by decide +kernel
theorem dX7_either_14 : decode cX7_either 14 = .ok (.invokevirtual 100, 3) := by decide +kernel
theorem dX7_either_17 : decode cX7_either 17 = .ok (.aload_n 0, 1) := by decide +kernel
theorem dX7_either_18 : decode cX7_either 18 = .ok (.sipush 20000, 3) := by decide +kernel
theorem dX7_either_21 : decode cX7_either 21 = .ok (.invokevirtual 107, 3) := by decide +kernel
theorem dX7_either_24 : decode cX7_either 24 = .ok (.goto (-20), 3) := by decide +kernel
theorem dX7_either_27 : decode cX7_either 27 = .ok (.return_, 1) := by decide +kernel
theorem dX7_both_0 : decode cX7_both 0 = .ok (.aload_n 0, 1) := by decide +kernel
theorem dX7_both_1 : decode cX7_both 1 = .ok (.invokevirtual 111, 3) := by decide +kernel
theorem dX7_both_4 : decode cX7_both 4 = .ok (.aload_n 0, 1) := by decide +kernel
theorem dX7_both_5 : decode cX7_both 5 = .ok (.bipush 38, 2) := by decide +kernel
theorem dX7_both_7 : decode cX7_both 7 = .ok (.invokevirtual 103, 3) := by decide +kernel
theorem dX7_both_10 : decode cX7_both 10 = .ok (.ifCond .eq 17, 3) := by decide +kernel
theorem dX7_both_13 : decode cX7_both 13 = .ok (.aload_n 0, 1) := by decide +kernel
theorem dX7_both_14 : decode cX7_both 14 = .ok (.invokevirtual 111, 3) := by decide +kernel
theorem dX7_both_17 : decode cX7_both 17 = .ok (.aload_n 0, 1) := by decide +kernel
theorem dX7_both_18 : decode cX7_both 18 = .ok (.sipush 20001, 3) := by decide +kernel
theorem dX7_both_21 : decode cX7_both 21 = .ok (.invokevirtual 107, 3) := by decide +kernel
theorem dX7_both_24 : decode cX7_both 24 = .ok (.goto (-20), 3) := by decide +kernel
theorem dX7_both_27 : decode cX7_both 27 = .ok (.return_, 1) := by decide +kernel
theorem dX7_compared_0 : decode cX7_compared 0 = .ok (.aload_n 0, 1) := by decide +kernel
theorem dX7_compared_1 : decode cX7_compared 1 = .ok (.invokevirtual 114, 3) := by decide +kernel
theorem dX7_compared_4 : decode cX7_compared 4 = .ok (.aload_n 0, 1) := by decide +kernel
theorem dX7_compared_5 : decode cX7_compared 5 = .ok (.bipush 60, 2) := by decide +kernel
theorem dX7_compared_7 : decode cX7_compared 7 = .ok (.invokevirtual 103, 3) := by decide +kernel
theorem dX7_compared_10 : decode cX7_compared 10 = .ok (.ifCond .eq 9, 3) := by decide +kernel
theorem dX7_compared_13 : decode cX7_compared 13 = .ok (.sipush 20002, 3) := by decide +kernel
theorem dX7_compared_16 : decode cX7_compared 16 = .ok (.goto 34, 3) := by decide +kernel
theorem dX7_compared_19 : decode cX7_compared 19 = .ok (.aload_n 0, 1) := by decide +kernel
theorem dX7_compared_20 : decode cX7_compared 20 = .ok (.bipush 61, 2) := by decide +kernel
theorem dX7_compared_22 : decode cX7_compared 22 = .ok (.invokevirtual 103, 3) := by decide +kernel
theorem dX7_compared_25 : decode cX7_compared 25 = .ok (.ifCond .eq 9, 3) := by decide +kernel
theorem dX7_compared_28 : decode cX7_compared 28 = .ok (.sipush 20003, 3) := by decide +kernel
theorem dX7_compared_31 : decode cX7_compared 31 = .ok (.goto 19, 3) := by decide +kernel
theorem dX7_compared_34 : decode cX7_compared 34 = .ok (.aload_n 0, 1) := by decide +kernel
theorem dX7_compared_35 : decode cX7_compared 35 = .ok (.bipush 62, 2) := by decide +kernel
theorem dX7_compared_37 : decode cX7_compared 37 = .ok (.invokevirtual 103, 3) := by decide +kernel
theorem dX7_compared_40 : decode cX7_compared 40 = .ok (.ifCond .eq 9, 3) := by decide +kernel
theorem dX7_compared_43 : decode cX7_compared 43 = .ok (.sipush 20004, 3) := by decide +kernel
theorem dX7_compared_46 : decode cX7_compared 46 = .ok (.goto 4, 3) := by decide +kernel
theorem dX7_compared_49 : decode cX7_compared 49 = .ok (.iconst 0, 1) := by decide +kernel
theorem dX7_compared_50 : decode cX7_compared 50 = .ok (.istore_n 1, 1) := by decide +kernel
theorem dX7_compared_51 : decode cX7_compared 51 = .ok (.iload_n 1, 1) := by decide +kernel
theorem dX7_compared_52 : decode cX7_compared 52 = .ok (.ifCond .le 12, 3) := by decide +kernel
theorem dX7_compared_55 : decode cX7_compared 55 = .ok (.aload_n 0, 1) := by decide +kernel
theorem dX7_compared_56 : decode cX7_compared 56 = .ok (.invokevirtual 114, 3) := by decide +kernel
theorem dX7_compared_59 : decode cX7_compared 59 = .ok (.aload_n 0, 1) := by decide +kernel
theorem dX7_compared_60 : decode cX7_compared 60 = .ok (.iload_n 1, 1) := by decide +kernel
theorem dX7_compared_61 : decode cX7_compared 61 = .ok (.invokevirtual 107, 3) := by decide +kernel
theorem dX7_compared_64 : decode cX7_compared 64 = .ok (.return_, 1) := by decide +kernel
theorem dX7_sum_0 : decode cX7_sum 0 = .ok (.aload_n 0, 1) := by decide +kernel
theorem dX7_sum_1 : decode cX7_sum 1 = .ok (.invokevirtual 117, 3) := by decide +kernel
theorem dX7_sum_4 : decode cX7_sum 4 = .ok (.aload_n 0, 1) := by decide +kernel
theorem dX7_sum_5 : decode cX7_sum 5 = .ok (.bipush 43, 2) := by decide +kernel
theorem dX7_sum_7 : decode cX7_sum 7 = .ok (.invokevirtual 103, 3) := by decide +kernel
theorem dX7_sum_10 : decode cX7_sum 10 = .ok (.ifCond .eq 9, 3) := by decide +kernel
theorem dX7_sum_13 : decode cX7_sum 13 = .ok (.sipush 20005, 3) := by decide +kernel
theorem dX7_sum_16 : decode cX7_sum 16 = .ok (.goto 19, 3) := by decide +kernel
theorem dX7_sum_19 : decode cX7_sum 19 = .ok (.aload_n 0, 1) := by decide +kernel
theorem dX7_sum_20 : decode cX7_sum 20 = .ok (.bipush 45, 2) := by decide +kernel
theorem dX7_sum_22 : decode cX7_sum 22 = .ok (.invokevirtual 103, 3) := by decide +kernel
theorem dX7_sum_25 : decode cX7_sum 25 = .ok (.ifCond .eq 9, 3) := by decide +kernel
theorem dX7_sum_28 : decode cX7_sum 28 = .ok (.sipush 20006, 3) := by decide +kernel
theorem dX7_sum_31 : decode cX7_sum 31 = .ok (.goto 4, 3) := by decide +kernel
theorem dX7_sum_34 : decode cX7_sum 34 = .ok (.iconst 0, 1) := by decide +kernel
theorem dX7_sum_35 : decode cX7_sum 35 = .ok (.istore_n 1, 1) := by decide +kernel
theorem dX7_sum_36 : decode cX7_sum 36 = .ok (.iload_n 1, 1) := by decide +kernel
theorem dX7_sum_37 : decode cX7_sum 37 = .ok (.ifCond .le 47, 3) := by decide +kernel
theorem dX7_sum_40 : decode cX7_sum 40 = .ok (.aload_n 0, 1) := by decide +kernel
theorem dX7_sum_41 : decode cX7_sum 41 = .ok (.invokevirtual 117, 3) := by decide +kernel
theorem dX7_sum_44 : decode cX7_sum 44 = .ok (.aload_n 0, 1) := by decide +kernel
theorem dX7_sum_45 : decode cX7_sum 45 = .ok (.iload_n 1, 1) := by decide +kernel
theorem dX7_sum_46 : decode cX7_sum 46 = .ok (.invokevirtual 107, 3) := by decide +kernel
theorem dX7_sum_49 : decode cX7_sum 49 = .ok (.aload_n 0, 1) := by decide +kernel
theorem dX7_sum_50 : decode cX7_sum 50 = .ok (.bipush 43, 2) := by decide +kernel
theorem dX7_sum_52 : decode cX7_sum 52 = .ok (.invokevirtual 103, 3) := by decide +kernel
theorem dX7_sum_55 : decode cX7_sum 55 = .ok (.ifCond .eq 9, 3) := by decide +kernel
theorem dX7_sum_58 : decode cX7_sum 58 = .ok (.sipush 20005, 3) := by decide +kernel
theorem dX7_sum_61 : decode cX7_sum 61 = .ok (.goto 19, 3) := by decide +kernel
theorem dX7_sum_64 : decode cX7_sum 64 = .ok (.aload_n 0, 1) := by decide +kernel
theorem dX7_sum_65 : decode cX7_sum 65 = .ok (.bipush 45, 2) := by decide +kernel
theorem dX7_sum_67 : decode cX7_sum 67 = .ok (.invokevirtual 103, 3) := by decide +kernel
theorem dX7_sum_70 : decode cX7_sum 70 = .ok (.ifCond .eq 9, 3) := by decide +kernel
theorem dX7_sum_73 : decode cX7_sum 73 = .ok (.sipush 20006, 3) := by decide +kernel
theorem dX7_sum_76 : decode cX7_sum 76 = .ok (.goto 4, 3) := by decide +kernel
theorem dX7_sum_79 : decode cX7_sum 79 = .ok (.iconst 0, 1) := by decide +kernel
theorem dX7_sum_80 : decode cX7_sum 80 = .ok (.istore_n 1, 1) := by decide +kernel
theorem dX7_sum_81 : decode cX7_sum 81 = .ok (.goto (-45), 3) := by decide +kernel
theorem dX7_sum_84 : decode cX7_sum 84 = .ok (.return_, 1) := by decide +kernel
theorem dX7_product_0 : decode cX7_product 0 = .ok (.aload_n 0, 1) := by decide +kernel
theorem dX7_product_1 : decode cX7_product 1 = .ok (.invokevirtual 120, 3) := by decide +kernel
theorem dX7_product_4 : decode cX7_product 4 = .ok (.aload_n 0, 1) := by decide +kernel
theorem dX7_product_5 : decode cX7_product 5 = .ok (.bipush 42, 2) := by decide +kernel
theorem dX7_product_7 : decode cX7_product 7 = .ok (.invokevirtual 103, 3) := by decide +kernel
theorem dX7_product_10 : decode cX7_product 10 = .ok (.ifCond .eq 9, 3) := by decide +kernel
theorem dX7_product_13 : decode cX7_product 13 = .ok (.sipush 20007, 3) := by decide +kernel
theorem dX7_product_16 : decode cX7_product 16 = .ok (.goto 34, 3) := by decide +kernel
theorem dX7_product_19 : decode cX7_product 19 = .ok (.aload_n 0, 1) := by decide +kernel
theorem dX7_product_20 : decode cX7_product 20 = .ok (.bipush 47, 2) := by decide +kernel
theorem dX7_product_22 : decode cX7_product 22 = .ok (.invokevirtual 103, 3) := by decide +kernel
theorem dX7_product_25 : decode cX7_product 25 = .ok (.ifCond .eq 9, 3) := by decide +kernel
theorem dX7_product_28 : decode cX7_product 28 = .ok (.sipush 20008, 3) := by decide +kernel
theorem dX7_product_31 : decode cX7_product 31 = .ok (.goto 19, 3) := by decide +kernel
theorem dX7_product_34 : decode cX7_product 34 = .ok (.aload_n 0, 1) := by decide +kernel
theorem dX7_product_35 : decode cX7_product 35 = .ok (.bipush 37, 2) := by decide +kernel
theorem dX7_product_37 : decode cX7_product 37 = .ok (.invokevirtual 103, 3) := by decide +kernel
theorem dX7_product_40 : decode cX7_product 40 = .ok (.ifCond .eq 9, 3) := by decide +kernel
theorem dX7_product_43 : decode cX7_product 43 = .ok (.sipush 20009, 3) := by decide +kernel
theorem dX7_product_46 : decode cX7_product 46 = .ok (.goto 4, 3) := by decide +kernel
theorem dX7_product_49 : decode cX7_product 49 = .ok (.iconst 0, 1) := by decide +kernel
theorem dX7_product_50 : decode cX7_product 50 = .ok (.istore_n 1, 1) := by decide +kernel
theorem dX7_product_51 : decode cX7_product 51 = .ok (.iload_n 1, 1) := by decide +kernel
theorem dX7_product_52 : decode cX7_product 52 = .ok (.ifCond .le 62, 3) := by decide +kernel
theorem dX7_product_55 : decode cX7_product 55 = .ok (.aload_n 0, 1) := by decide +kernel
theorem dX7_product_56 : decode cX7_product 56 = .ok (.invokevirtual 120, 3) := by decide +kernel
theorem dX7_product_59 : decode cX7_product 59 = .ok (.aload_n 0, 1) := by decide +kernel
theorem dX7_product_60 : decode cX7_product 60 = .ok (.iload_n 1, 1) := by decide +kernel
theorem dX7_product_61 : decode cX7_product 61 = .ok (.invokevirtual 107, 3) := by decide +kernel
theorem dX7_product_64 : decode cX7_product 64 = .ok (.aload_n 0, 1) := by decide +kernel
theorem dX7_product_65 : decode cX7_product 65 = .ok (.bipush 42, 2) := by decide +kernel
theorem dX7_product_67 : decode cX7_product 67 = .ok (.invokevirtual 103, 3) := by decide +kernel
theorem dX7_product_70 : decode cX7_product 70 = .ok (.ifCond .eq 9, 3) := by decide +kernel
theorem dX7_product_73 : decode cX7_product 73 = .ok (.sipush 20007, 3) := by decide +kernel
theorem dX7_product_76 : decode cX7_product 76 = .ok (.goto 34, 3) := by decide +kernel
theorem dX7_product_79 : decode cX7_product 79 = .ok (.aload_n 0, 1) := by decide +kernel
theorem dX7_product_80 : decode cX7_product 80 = .ok (.bipush 47, 2) := by decide +kernel
theorem dX7_product_82 : decode cX7_product 82 = .ok (.invokevirtual 103, 3) := by decide +kernel
theorem dX7_product_85 : decode cX7_product 85 = .ok (.ifCond .eq 9, 3) := by decide +kernel
theorem dX7_product_88 : decode cX7_product 88 = .ok (.sipush 20008, 3) := by decide +kernel
theorem dX7_product_91 : decode cX7_product 91 = .ok (.goto 19, 3) := by decide +kernel
theorem dX7_product_94 : decode cX7_product 94 = .ok (.aload_n 0, 1) := by decide +kernel
theorem dX7_product_95 : decode cX7_product 95 = .ok (.bipush 37, 2) := by decide +kernel
theorem dX7_product_97 : decode cX7_product 97 = .ok (.invokevirtual 103, 3) := by decide +kernel
theorem dX7_product_100 : decode cX7_product 100 = .ok (.ifCond .eq 9, 3) := by decide +kernel
theorem dX7_product_103 : decode cX7_product 103 = .ok (.sipush 20009, 3) := by decide +kernel
theorem dX7_product_106 : decode cX7_product 106 = .ok (.goto 4, 3) := by decide +kernel
theorem dX7_product_109 : decode cX7_product 109 = .ok (.iconst 0, 1) := by decide +kernel
theorem dX7_product_110 : decode cX7_product 110 = .ok (.istore_n 1, 1) := by decide +kernel
theorem dX7_product_111 : decode cX7_product 111 = .ok (.goto (-60), 3) := by decide +kernel
theorem dX7_product_114 : decode cX7_product 114 = .ok (.return_, 1) := by decide +kernel
theorem dX7_nameOf_0 : decode cX7_nameOf 0 = .ok (.iconst (-1), 1) := by decide +kernel
theorem dX7_nameOf_1 : decode cX7_nameOf 1 = .ok (.istore_n 2, 1) := by decide +kernel
theorem dX7_nameOf_2 : decode cX7_nameOf 2 = .ok (.iconst 0, 1) := by decide +kernel
theorem dX7_nameOf_3 : decode cX7_nameOf 3 = .ok (.istore_n 3, 1) := by decide +kernel
theorem dX7_nameOf_4 : decode cX7_nameOf 4 = .ok (.iload_n 3, 1) := by decide +kernel
theorem dX7_nameOf_5 : decode cX7_nameOf 5 = .ok (.aload_n 0, 1) := by decide +kernel
theorem dX7_nameOf_6 : decode cX7_nameOf 6 = .ok (.getfield 31, 3) := by decide +kernel
theorem dX7_nameOf_9 : decode cX7_nameOf 9 = .ok (.aload_n 0, 1) := by decide +kernel
theorem dX7_nameOf_10 : decode cX7_nameOf 10 = .ok (.getfield 123, 3) := by decide +kernel
theorem dX7_nameOf_13 : decode cX7_nameOf 13 = .ok (.aaload, 1) := by decide +kernel
theorem dX7_nameOf_14 : decode cX7_nameOf 14 = .ok (.invokevirtual 126, 3) := by decide +kernel
theorem dX7_nameOf_17 : decode cX7_nameOf 17 = .ok (.if_icmp .ge 32, 3) := by decide +kernel
theorem dX7_nameOf_20 : decode cX7_nameOf 20 = .ok (.aload_n 0, 1) := by decide +kernel
theorem dX7_nameOf_21 : decode cX7_nameOf 21 = .ok (.getfield 31, 3) := by decide +kernel
theorem dX7_nameOf_24 : decode cX7_nameOf 24 = .ok (.aload_n 0, 1) := by decide +kernel
theorem dX7_nameOf_25 : decode cX7_nameOf 25 = .ok (.getfield 123, 3) := by decide +kernel
theorem dX7_nameOf_28 : decode cX7_nameOf 28 = .ok (.aaload, 1) := by decide +kernel
theorem dX7_nameOf_29 : decode cX7_nameOf 29 = .ok (.iload_n 3, 1) := by decide +kernel
theorem dX7_nameOf_30 : decode cX7_nameOf 30 = .ok (.invokevirtual 129, 3) := by decide +kernel
theorem dX7_nameOf_33 : decode cX7_nameOf 33 = .ok (.iload_n 1, 1) := by decide +kernel
theorem dX7_nameOf_34 : decode cX7_nameOf 34 = .ok (.if_icmp .ne 7, 3) := by decide +kernel
theorem dX7_nameOf_37 : decode cX7_nameOf 37 = .ok (.iload_n 3, 1) := by decide +kernel
theorem dX7_nameOf_38 : decode cX7_nameOf 38 = .ok (.goto 4, 3) := by decide +kernel
theorem dX7_nameOf_41 : decode cX7_nameOf 41 = .ok (.iload_n 2, 1) := by decide +kernel
theorem dX7_nameOf_42 : decode cX7_nameOf 42 = .ok (.istore_n 2, 1) := by decide +kernel
theorem dX7_nameOf_43 : decode cX7_nameOf 43 = .ok (.iinc 3 1, 3) := by decide +kernel
theorem dX7_nameOf_46 : decode cX7_nameOf 46 = .ok (.goto (-42), 3) := by decide +kernel
theorem dX7_nameOf_49 : decode cX7_nameOf 49 = .ok (.iload_n 2, 1) := by decide +kernel
theorem dX7_nameOf_50 : decode cX7_nameOf 50 = .ok (.ireturn, 1) := by decide +kernel
theorem dX7_one_0 : decode cX7_one 0 = .ok (.aload_n 0, 1) := by decide +kernel
theorem dX7_one_1 : decode cX7_one 1 = .ok (.invokevirtual 93, 3) := by decide +kernel
theorem dX7_one_4 : decode cX7_one 4 = .ok (.istore_n 1, 1) := by decide +kernel
theorem dX7_one_5 : decode cX7_one 5 = .ok (.iload_n 1, 1) := by decide +kernel
theorem dX7_one_6 : decode cX7_one 6 = .ok (.bipush 33, 2) := by decide +kernel
theorem dX7_one_8 : decode cX7_one 8 = .ok (.if_icmp .eq 9, 3) := by decide +kernel
theorem dX7_one_11 : decode cX7_one 11 = .ok (.iload_n 1, 1) := by decide +kernel
theorem dX7_one_12 : decode cX7_one 12 = .ok (.bipush 40, 2) := by decide +kernel
theorem dX7_one_14 : decode cX7_one 14 = .ok (.if_icmp .ne 102, 3) := by decide +kernel
theorem dX7_one_17 : decode cX7_one 17 = .ok (.aload_n 0, 1) := by decide +kernel
theorem dX7_one_18 : decode cX7_one 18 = .ok (.aload_n 0, 1) := by decide +kernel
theorem dX7_one_19 : decode cX7_one 19 = .ok (.getfield 133, 3) := by decide +kernel
theorem dX7_one_22 : decode cX7_one 22 = .ok (.iconst 5, 1) := by decide +kernel
theorem dX7_one_23 : decode cX7_one 23 = .ok (.if_icmp .ne 7, 3) := by decide +kernel
theorem dX7_one_26 : decode cX7_one 26 = .ok (.iconst 1, 1) := by decide +kernel
theorem dX7_one_27 : decode cX7_one 27 = .ok (.goto 4, 3) := by decide +kernel
theorem dX7_one_30 : decode cX7_one 30 = .ok (.iconst 0, 1) := by decide +kernel
theorem dX7_one_31 : decode cX7_one 31 = .ok (.putfield 85, 3) := by decide +kernel
theorem dX7_one_34 : decode cX7_one 34 = .ok (.aload_n 0, 1) := by decide +kernel
theorem dX7_one_35 : decode cX7_one 35 = .ok (.getfield 85, 3) := by decide +kernel
theorem dX7_one_38 : decode cX7_one 38 = .ok (.ifCond .ne 209, 3) := by decide +kernel
theorem dX7_one_41 : decode cX7_one 41 = .ok (.aload_n 0, 1) := by decide +kernel
theorem dX7_one_42 : decode cX7_one 42 = .ok (.dup, 1) := by decide +kernel
theorem dX7_one_43 : decode cX7_one 43 = .ok (.getfield 133, 3) := by decide +kernel
theorem dX7_one_46 : decode cX7_one 46 = .ok (.iconst 1, 1) := by decide +kernel
theorem dX7_one_47 : decode cX7_one 47 = .ok (.iadd, 1) := by decide +kernel
theorem dX7_one_48 : decode cX7_one 48 = .ok (.putfield 133, 3) := by decide +kernel
theorem dX7_one_51 : decode cX7_one 51 = .ok (.aload_n 0, 1) := by decide +kernel
theorem dX7_one_52 : decode cX7_one 52 = .ok (.dup, 1) := by decide +kernel
theorem dX7_one_53 : decode cX7_one 53 = .ok (.getfield 89, 3) := by decide +kernel
theorem dX7_one_56 : decode cX7_one 56 = .ok (.iconst 1, 1) := by decide +kernel
theorem dX7_one_57 : decode cX7_one 57 = .ok (.iadd, 1) := by decide +kernel
theorem dX7_one_58 : decode cX7_one 58 = .ok (.putfield 89, 3) := by decide +kernel
theorem dX7_one_61 : decode cX7_one 61 = .ok (.iload_n 1, 1) := by decide +kernel
theorem dX7_one_62 : decode cX7_one 62 = .ok (.bipush 33, 2) := by decide +kernel
theorem dX7_one_64 : decode cX7_one 64 = .ok (.if_icmp .ne 17, 3) := by decide +kernel
theorem dX7_one_67 : decode cX7_one 67 = .ok (.aload_n 0, 1) := by decide +kernel
theorem dX7_one_68 : decode cX7_one 68 = .ok (.invokevirtual 120, 3) := by decide +kernel
theorem dX7_one_71 : decode cX7_one 71 = .ok (.aload_n 0, 1) := by decide +kernel
theorem dX7_one_72 : decode cX7_one 72 = .ok (.sipush 20010, 3) := by decide +kernel
theorem dX7_one_75 : decode cX7_one 75 = .ok (.invokevirtual 107, 3) := by decide +kernel
theorem dX7_one_78 : decode cX7_one 78 = .ok (.goto 25, 3) := by decide +kernel
theorem dX7_one_81 : decode cX7_one 81 = .ok (.aload_n 0, 1) := by decide +kernel
theorem dX7_one_82 : decode cX7_one 82 = .ok (.invokevirtual 136, 3) := by decide +kernel
theorem dX7_one_85 : decode cX7_one 85 = .ok (.aload_n 0, 1) := by decide +kernel
theorem dX7_one_86 : decode cX7_one 86 = .ok (.aload_n 0, 1) := by decide +kernel
theorem dX7_one_87 : decode cX7_one 87 = .ok (.bipush 41, 2) := by decide +kernel
theorem dX7_one_89 : decode cX7_one 89 = .ok (.invokevirtual 103, 3) := by decide +kernel
theorem dX7_one_92 : decode cX7_one 92 = .ok (.ifCond .ne 7, 3) := by decide +kernel
theorem dX7_one_95 : decode cX7_one 95 = .ok (.iconst 1, 1) := by decide +kernel
theorem dX7_one_96 : decode cX7_one 96 = .ok (.goto 4, 3) := by decide +kernel
theorem dX7_one_99 : decode cX7_one 99 = .ok (.iconst 0, 1) := by decide +kernel
theorem dX7_one_100 : decode cX7_one 100 = .ok (.putfield 85, 3) := by decide +kernel
theorem dX7_one_103 : decode cX7_one 103 = .ok (.aload_n 0, 1) := by decide +kernel
theorem dX7_one_104 : decode cX7_one 104 = .ok (.dup, 1) := by decide +kernel
theorem dX7_one_105 : decode cX7_one 105 = .ok (.getfield 133, 3) := by decide +kernel
theorem dX7_one_108 : decode cX7_one 108 = .ok (.iconst 1, 1) := by decide +kernel
theorem dX7_one_109 : decode cX7_one 109 = .ok (.isub, 1) := by decide +kernel
theorem dX7_one_110 : decode cX7_one 110 = .ok (.putfield 133, 3) := by decide +kernel
theorem dX7_one_113 : decode cX7_one 113 = .ok (.goto 134, 3) := by decide +kernel
theorem dX7_one_116 : decode cX7_one 116 = .ok (.iload_n 1, 1) := by decide +kernel
theorem dX7_one_117 : decode cX7_one 117 = .ok (.bipush 48, 2) := by decide +kernel
theorem dX7_one_119 : decode cX7_one 119 = .ok (.bipush 57, 2) := by decide +kernel
theorem dX7_one_121 : decode cX7_one 121 = .ok (.invokestatic 73, 3) := by decide +kernel
theorem dX7_one_124 : decode cX7_one 124 = .ok (.ifCond .eq 63, 3) := by decide +kernel
theorem dX7_one_127 : decode cX7_one 127 = .ok (.iconst 0, 1) := by decide +kernel
theorem dX7_one_128 : decode cX7_one 128 = .ok (.istore_n 2, 1) := by decide +kernel
theorem dX7_one_129 : decode cX7_one 129 = .ok (.iconst 0, 1) := by decide +kernel
theorem dX7_one_130 : decode cX7_one 130 = .ok (.istore_n 3, 1) := by decide +kernel
theorem dX7_one_131 : decode cX7_one 131 = .ok (.iload_n 3, 1) := by decide +kernel
theorem dX7_one_132 : decode cX7_one 132 = .ok (.iconst 4, 1) := by decide +kernel
theorem dX7_one_133 : decode cX7_one 133 = .ok (.if_icmp .ge 46, 3) := by decide +kernel
theorem dX7_one_136 : decode cX7_one 136 = .ok (.aload_n 0, 1) := by decide +kernel
theorem dX7_one_137 : decode cX7_one 137 = .ok (.invokevirtual 93, 3) := by decide +kernel
theorem dX7_one_140 : decode cX7_one 140 = .ok (.bipush 48, 2) := by decide +kernel
theorem dX7_one_142 : decode cX7_one 142 = .ok (.bipush 57, 2) := by decide +kernel
theorem dX7_one_144 : decode cX7_one 144 = .ok (.invokestatic 73, 3) := by decide +kernel
theorem dX7_one_147 : decode cX7_one 147 = .ok (.ifCond .eq 32, 3) := by decide +kernel
theorem dX7_one_150 : decode cX7_one 150 = .ok (.bipush 10, 2) := by decide +kernel
theorem dX7_one_152 : decode cX7_one 152 = .ok (.iload_n 2, 1) := by decide +kernel
theorem dX7_one_153 : decode cX7_one 153 = .ok (.imul, 1) := by decide +kernel
theorem dX7_one_154 : decode cX7_one 154 = .ok (.aload_n 0, 1) := by decide +kernel
theorem dX7_one_155 : decode cX7_one 155 = .ok (.invokevirtual 93, 3) := by decide +kernel
theorem dX7_one_158 : decode cX7_one 158 = .ok (.iadd, 1) := by decide +kernel
theorem dX7_one_159 : decode cX7_one 159 = .ok (.bipush 48, 2) := by decide +kernel
theorem dX7_one_161 : decode cX7_one 161 = .ok (.isub, 1) := by decide +kernel
theorem dX7_one_162 : decode cX7_one 162 = .ok (.istore_n 2, 1) := by decide +kernel
theorem dX7_one_163 : decode cX7_one 163 = .ok (.aload_n 0, 1) := by decide +kernel
theorem dX7_one_164 : decode cX7_one 164 = .ok (.dup, 1) := by decide +kernel
theorem dX7_one_165 : decode cX7_one 165 = .ok (.getfield 89, 3) := by decide +kernel
theorem dX7_one_168 : decode cX7_one 168 = .ok (.iconst 1, 1) := by decide +kernel
theorem dX7_one_169 : decode cX7_one 169 = .ok (.iadd, 1) := by decide +kernel
theorem dX7_one_170 : decode cX7_one 170 = .ok (.putfield 89, 3) := by decide +kernel
theorem dX7_one_173 : decode cX7_one 173 = .ok (.iinc 3 1, 3) := by decide +kernel
theorem dX7_one_176 : decode cX7_one 176 = .ok (.goto (-45), 3) := by decide +kernel
theorem dX7_one_179 : decode cX7_one 179 = .ok (.aload_n 0, 1) := by decide +kernel
theorem dX7_one_180 : decode cX7_one 180 = .ok (.iload_n 2, 1) := by decide +kernel
theorem dX7_one_181 : decode cX7_one 181 = .ok (.invokevirtual 107, 3) := by decide +kernel
theorem dX7_one_184 : decode cX7_one 184 = .ok (.goto 63, 3) := by decide +kernel
theorem dX7_one_187 : decode cX7_one 187 = .ok (.iload_n 1, 1) := by decide +kernel
theorem dX7_one_188 : decode cX7_one 188 = .ok (.ifCond .ge 7, 3) := by decide +kernel
theorem dX7_one_191 : decode cX7_one 191 = .ok (.iconst (-1), 1) := by decide +kernel
theorem dX7_one_192 : decode cX7_one 192 = .ok (.goto 8, 3) := by decide +kernel
theorem dX7_one_195 : decode cX7_one 195 = .ok (.aload_n 0, 1) := by decide +kernel
theorem dX7_one_196 : decode cX7_one 196 = .ok (.iload_n 1, 1) := by decide +kernel
theorem dX7_one_197 : decode cX7_one 197 = .ok (.invokevirtual 139, 3) := by decide +kernel
theorem dX7_one_200 : decode cX7_one 200 = .ok (.istore_n 2, 1) := by decide +kernel
theorem dX7_one_201 : decode cX7_one 201 = .ok (.aload_n 0, 1) := by decide +kernel
theorem dX7_one_202 : decode cX7_one 202 = .ok (.aload_n 0, 1) := by decide +kernel
theorem dX7_one_203 : decode cX7_one 203 = .ok (.getfield 85, 3) := by decide +kernel
theorem dX7_one_206 : decode cX7_one 206 = .ok (.ifCond .ne 7, 3) := by decide +kernel
theorem dX7_one_209 : decode cX7_one 209 = .ok (.iload_n 2, 1) := by decide +kernel
theorem dX7_one_210 : decode cX7_one 210 = .ok (.ifCond .ge 7, 3) := by decide +kernel
theorem dX7_one_213 : decode cX7_one 213 = .ok (.iconst 1, 1) := by decide +kernel
theorem dX7_one_214 : decode cX7_one 214 = .ok (.goto 4, 3) := by decide +kernel
theorem dX7_one_217 : decode cX7_one 217 = .ok (.iconst 0, 1) := by decide +kernel
theorem dX7_one_218 : decode cX7_one 218 = .ok (.putfield 85, 3) := by decide +kernel
theorem dX7_one_221 : decode cX7_one 221 = .ok (.aload_n 0, 1) := by decide +kernel
theorem dX7_one_222 : decode cX7_one 222 = .ok (.getfield 85, 3) := by decide +kernel
theorem dX7_one_225 : decode cX7_one 225 = .ok (.ifCond .ne 22, 3) := by decide +kernel
theorem dX7_one_228 : decode cX7_one 228 = .ok (.aload_n 0, 1) := by decide +kernel
theorem dX7_one_229 : decode cX7_one 229 = .ok (.sipush 10000, 3) := by decide +kernel
theorem dX7_one_232 : decode cX7_one 232 = .ok (.iload_n 2, 1) := by decide +kernel
theorem dX7_one_233 : decode cX7_one 233 = .ok (.iadd, 1) := by decide +kernel
theorem dX7_one_234 : decode cX7_one 234 = .ok (.invokevirtual 107, 3) := by decide +kernel
theorem dX7_one_237 : decode cX7_one 237 = .ok (.aload_n 0, 1) := by decide +kernel
theorem dX7_one_238 : decode cX7_one 238 = .ok (.dup, 1) := by decide +kernel
theorem dX7_one_239 : decode cX7_one 239 = .ok (.getfield 89, 3) := by decide +kernel
theorem dX7_one_242 : decode cX7_one 242 = .ok (.iconst 1, 1) := by decide +kernel
theorem dX7_one_243 : decode cX7_one 243 = .ok (.iadd, 1) := by decide +kernel
theorem dX7_one_244 : decode cX7_one 244 = .ok (.putfield 89, 3) := by decide +kernel
theorem dX7_one_247 : decode cX7_one 247 = .ok (.return_, 1) := by decide +kernel
theorem dX7_text_0 : decode cX7_text 0 = .ok (.iload_n 1, 1) := by decide +kernel
theorem dX7_text_1 : decode cX7_text 1 = .ok (.iconst 0, 1) := by decide +kernel
theorem dX7_text_2 : decode cX7_text 2 = .ok (.iconst 1, 1) := by decide +kernel
theorem dX7_text_3 : decode cX7_text 3 = .ok (.invokestatic 73, 3) := by decide +kernel
theorem dX7_text_6 : decode cX7_text 6 = .ok (.ifCond .ne 10, 3) := by decide +kernel
theorem dX7_text_9 : decode cX7_text 9 = .ok (.aload_n 0, 1) := by decide +kernel
theorem dX7_text_10 : decode cX7_text 10 = .ok (.ldc 77, 2) := by decide +kernel
theorem dX7_text_12 : decode cX7_text 12 = .ok (.invokevirtual 78, 3) := by decide +kernel
theorem dX7_text_15 : decode cX7_text 15 = .ok (.ireturn, 1) := by decide +kernel
theorem dX7_text_16 : decode cX7_text 16 = .ok (.aload_n 0, 1) := by decide +kernel
theorem dX7_text_17 : decode cX7_text 17 = .ok (.iload_n 1, 1) := by decide +kernel
theorem dX7_text_18 : decode cX7_text 18 = .ok (.putfield 123, 3) := by decide +kernel
theorem dX7_text_21 : decode cX7_text 21 = .ok (.aload_n 0, 1) := by decide +kernel
theorem dX7_text_22 : decode cX7_text 22 = .ok (.iconst 0, 1) := by decide +kernel
theorem dX7_text_23 : decode cX7_text 23 = .ok (.putfield 89, 3) := by decide +kernel
theorem dX7_text_26 : decode cX7_text 26 = .ok (.aload_n 0, 1) := by decide +kernel
theorem dX7_text_27 : decode cX7_text 27 = .ok (.iconst 0, 1) := by decide +kernel
theorem dX7_text_28 : decode cX7_text 28 = .ok (.putfield 133, 3) := by decide +kernel
theorem dX7_text_31 : decode cX7_text 31 = .ok (.aload_n 0, 1) := by decide +kernel
theorem dX7_text_32 : decode cX7_text 32 = .ok (.iconst 0, 1) := by decide +kernel
theorem dX7_text_33 : decode cX7_text 33 = .ok (.putfield 85, 3) := by decide +kernel
theorem dX7_text_36 : decode cX7_text 36 = .ok (.aload_n 0, 1) := by decide +kernel
theorem dX7_text_37 : decode cX7_text 37 = .ok (.iconst 0, 1) := by decide +kernel
theorem dX7_text_38 : decode cX7_text 38 = .ok (.putfield 97, 3) := by decide +kernel
theorem dX7_text_41 : decode cX7_text 41 = .ok (.aload_n 0, 1) := by decide +kernel
theorem dX7_text_42 : decode cX7_text 42 = .ok (.invokevirtual 136, 3) := by decide +kernel
theorem dX7_text_45 : decode cX7_text 45 = .ok (.aload_n 0, 1) := by decide +kernel
theorem dX7_text_46 : decode cX7_text 46 = .ok (.aload_n 0, 1) := by decide +kernel
theorem dX7_text_47 : decode cX7_text 47 = .ok (.getfield 85, 3) := by decide +kernel
theorem dX7_text_50 : decode cX7_text 50 = .ok (.ifCond .ne 16, 3) := by decide +kernel
theorem dX7_text_53 : decode cX7_text 53 = .ok (.aload_n 0, 1) := by decide +kernel
theorem dX7_text_54 : decode cX7_text 54 = .ok (.getfield 89, 3) := by decide +kernel
theorem dX7_text_57 : decode cX7_text 57 = .ok (.aload_n 0, 1) := by decide +kernel
theorem dX7_text_58 : decode cX7_text 58 = .ok (.getfield 9, 3) := by decide +kernel
theorem dX7_text_61 : decode cX7_text 61 = .ok (.iconst 3, 1) := by decide +kernel
theorem dX7_text_62 : decode cX7_text 62 = .ok (.iaload, 1) := by decide +kernel
theorem dX7_text_63 : decode cX7_text 63 = .ok (.if_icmp .ge 7, 3) := by decide +kernel
theorem dX7_text_66 : decode cX7_text 66 = .ok (.iconst 1, 1) := by decide +kernel
theorem dX7_text_67 : decode cX7_text 67 = .ok (.goto 4, 3) := by decide +kernel
theorem dX7_text_70 : decode cX7_text 70 = .ok (.iconst 0, 1) := by decide +kernel
theorem dX7_text_71 : decode cX7_text 71 = .ok (.putfield 85, 3) := by decide +kernel
theorem dX7_text_74 : decode cX7_text 74 = .ok (.aload_n 0, 1) := by decide +kernel
theorem dX7_text_75 : decode cX7_text 75 = .ok (.getfield 9, 3) := by decide +kernel
theorem dX7_text_78 : decode cX7_text 78 = .ok (.iconst 3, 1) := by decide +kernel
theorem dX7_text_79 : decode cX7_text 79 = .ok (.iconst 0, 1) := by decide +kernel
theorem dX7_text_80 : decode cX7_text 80 = .ok (.iastore, 1) := by decide +kernel
theorem dX7_text_81 : decode cX7_text 81 = .ok (.aload_n 0, 1) := by decide +kernel
theorem dX7_text_82 : decode cX7_text 82 = .ok (.getfield 85, 3) := by decide +kernel
theorem dX7_text_85 : decode cX7_text 85 = .ok (.ifCond .eq 11, 3) := by decide +kernel
theorem dX7_text_88 : decode cX7_text 88 = .ok (.bipush (-10), 2) := by decide +kernel
theorem dX7_text_90 : decode cX7_text 90 = .ok (.aload_n 0, 1) := by decide +kernel
theorem dX7_text_91 : decode cX7_text 91 = .ok (.getfield 89, 3) := by decide +kernel
theorem dX7_text_94 : decode cX7_text 94 = .ok (.isub, 1) := by decide +kernel
theorem dX7_text_95 : decode cX7_text 95 = .ok (.ireturn, 1) := by decide +kernel
theorem dX7_text_96 : decode cX7_text 96 = .ok (.aload_n 0, 1) := by decide +kernel
theorem dX7_text_97 : decode cX7_text 97 = .ok (.getfield 9, 3) := by decide +kernel
theorem dX7_text_100 : decode cX7_text 100 = .ok (.bipush 117, 2) := by decide +kernel
theorem dX7_text_102 : decode cX7_text 102 = .ok (.bipush 52, 2) := by decide +kernel
theorem dX7_text_104 : decode cX7_text 104 = .ok (.aload_n 0, 1) := by decide +kernel
theorem dX7_text_105 : decode cX7_text 105 = .ok (.getfield 123, 3) := by decide +kernel
theorem dX7_text_108 : decode cX7_text 108 = .ok (.imul, 1) := by decide +kernel
theorem dX7_text_109 : decode cX7_text 109 = .ok (.iadd, 1) := by decide +kernel
theorem dX7_text_110 : decode cX7_text 110 = .ok (.aload_n 0, 1) := by decide +kernel
theorem dX7_text_111 : decode cX7_text 111 = .ok (.getfield 97, 3) := by decide +kernel
theorem dX7_text_114 : decode cX7_text 114 = .ok (.iastore, 1) := by decide +kernel
theorem dX7_text_115 : decode cX7_text 115 = .ok (.iconst 0, 1) := by decide +kernel
theorem dX7_text_116 : decode cX7_text 116 = .ok (.istore_n 2, 1) := by decide +kernel
theorem dX7_text_117 : decode cX7_text 117 = .ok (.iload_n 2, 1) := by decide +kernel
theorem dX7_text_118 : decode cX7_text 118 = .ok (.aload_n 0, 1) := by decide +kernel
theorem dX7_text_119 : decode cX7_text 119 = .ok (.getfield 97, 3) := by decide +kernel
theorem dX7_text_122 : decode cX7_text 122 = .ok (.if_icmp .ge 34, 3) := by decide +kernel
theorem dX7_text_125 : decode cX7_text 125 = .ok (.aload_n 0, 1) := by decide +kernel
theorem dX7_text_126 : decode cX7_text 126 = .ok (.getfield 9, 3) := by decide +kernel
theorem dX7_text_129 : decode cX7_text 129 = .ok (.bipush 117, 2) := by decide +kernel
theorem dX7_text_131 : decode cX7_text 131 = .ok (.bipush 52, 2) := by decide +kernel
theorem dX7_text_133 : decode cX7_text 133 = .ok (.aload_n 0, 1) := by decide +kernel
theorem dX7_text_134 : decode cX7_text 134 = .ok (.getfield 123, 3) := by decide +kernel
theorem dX7_text_137 : decode cX7_text 137 = .ok (.imul, 1) := by decide +kernel
theorem dX7_text_138 : decode cX7_text 138 = .ok (.iadd, 1) := by decide +kernel
theorem dX7_text_139 : decode cX7_text 139 = .ok (.iconst 1, 1) := by decide +kernel
theorem dX7_text_140 : decode cX7_text 140 = .ok (.iadd, 1) := by decide +kernel
theorem dX7_text_141 : decode cX7_text 141 = .ok (.iload_n 2, 1) := by decide +kernel
theorem dX7_text_142 : decode cX7_text 142 = .ok (.iadd, 1) := by decide +kernel
theorem dX7_text_143 : decode cX7_text 143 = .ok (.aload_n 0, 1) := by decide +kernel
theorem dX7_text_144 : decode cX7_text 144 = .ok (.getfield 35, 3) := by decide +kernel
theorem dX7_text_147 : decode cX7_text 147 = .ok (.iload_n 2, 1) := by decide +kernel
theorem dX7_text_148 : decode cX7_text 148 = .ok (.iaload, 1) := by decide +kernel
theorem dX7_text_149 : decode cX7_text 149 = .ok (.iastore, 1) := by decide +kernel
theorem dX7_text_150 : decode cX7_text 150 = .ok (.iinc 2 1, 3) := by decide +kernel
theorem dX7_text_153 : decode cX7_text 153 = .ok (.goto (-36), 3) := by decide +kernel
theorem dX7_text_156 : decode cX7_text 156 = .ok (.iconst 1, 1) := by decide +kernel
theorem dX7_text_157 : decode cX7_text 157 = .ok (.ireturn, 1) := by decide +kernel
theorem dX7_done_0 : decode cX7_done 0 = .ok (.iload_n 0, 1) := by decide +kernel
theorem dX7_done_1 : decode cX7_done 1 = .ok (.tableswitch 136 20000 20008 #[51, 65, 79, 90, 101, 112, 116, 120, 124], 51) := by decide +kernel
theorem dX7_done_52 : decode cX7_done 52 = .ok (.iload_n 1, 1) := by decide +kernel
theorem dX7_done_53 : decode cX7_done 53 = .ok (.ifCond .ne 7, 3) := by decide +kernel
theorem dX7_done_56 : decode cX7_done 56 = .ok (.iload_n 2, 1) := by decide +kernel
theorem dX7_done_57 : decode cX7_done 57 = .ok (.ifCond .eq 7, 3) := by decide +kernel
theorem dX7_done_60 : decode cX7_done 60 = .ok (.iconst 1, 1) := by decide +kernel
theorem dX7_done_61 : decode cX7_done 61 = .ok (.goto 4, 3) := by decide +kernel
theorem dX7_done_64 : decode cX7_done 64 = .ok (.iconst 0, 1) := by decide +kernel
theorem dX7_done_65 : decode cX7_done 65 = .ok (.ireturn, 1) := by decide +kernel
theorem dX7_done_66 : decode cX7_done 66 = .ok (.iload_n 1, 1) := by decide +kernel
theorem dX7_done_67 : decode cX7_done 67 = .ok (.ifCond .eq 11, 3) := by decide +kernel
theorem dX7_done_70 : decode cX7_done 70 = .ok (.iload_n 2, 1) := by decide +kernel
theorem dX7_done_71 : decode cX7_done 71 = .ok (.ifCond .eq 7, 3) := by decide +kernel
theorem dX7_done_74 : decode cX7_done 74 = .ok (.iconst 1, 1) := by decide +kernel
theorem dX7_done_75 : decode cX7_done 75 = .ok (.goto 4, 3) := by decide +kernel
theorem dX7_done_78 : decode cX7_done 78 = .ok (.iconst 0, 1) := by decide +kernel
theorem dX7_done_79 : decode cX7_done 79 = .ok (.ireturn, 1) := by decide +kernel
theorem dX7_done_80 : decode cX7_done 80 = .ok (.iload_n 1, 1) := by decide +kernel
theorem dX7_done_81 : decode cX7_done 81 = .ok (.iload_n 2, 1) := by decide +kernel
theorem dX7_done_82 : decode cX7_done 82 = .ok (.if_icmp .ge 7, 3) := by decide +kernel
theorem dX7_done_85 : decode cX7_done 85 = .ok (.iconst 1, 1) := by decide +kernel
theorem dX7_done_86 : decode cX7_done 86 = .ok (.goto 4, 3) := by decide +kernel
theorem dX7_done_89 : decode cX7_done 89 = .ok (.iconst 0, 1) := by decide +kernel
theorem dX7_done_90 : decode cX7_done 90 = .ok (.ireturn, 1) := by decide +kernel
theorem dX7_done_91 : decode cX7_done 91 = .ok (.iload_n 1, 1) := by decide +kernel
theorem dX7_done_92 : decode cX7_done 92 = .ok (.iload_n 2, 1) := by decide +kernel
theorem dX7_done_93 : decode cX7_done 93 = .ok (.if_icmp .ne 7, 3) := by decide +kernel
theorem dX7_done_96 : decode cX7_done 96 = .ok (.iconst 1, 1) := by decide +kernel
theorem dX7_done_97 : decode cX7_done 97 = .ok (.goto 4, 3) := by decide +kernel
theorem dX7_done_100 : decode cX7_done 100 = .ok (.iconst 0, 1) := by decide +kernel
theorem dX7_done_101 : decode cX7_done 101 = .ok (.ireturn, 1) := by decide +kernel
theorem dX7_done_102 : decode cX7_done 102 = .ok (.iload_n 1, 1) := by decide +kernel
theorem dX7_done_103 : decode cX7_done 103 = .ok (.iload_n 2, 1) := by decide +kernel
theorem dX7_done_104 : decode cX7_done 104 = .ok (.if_icmp .le 7, 3) := by decide +kernel
theorem dX7_done_107 : decode cX7_done 107 = .ok (.iconst 1, 1) := by decide +kernel
theorem dX7_done_108 : decode cX7_done 108 = .ok (.goto 4, 3) := by decide +kernel
theorem dX7_done_111 : decode cX7_done 111 = .ok (.iconst 0, 1) := by decide +kernel
theorem dX7_done_112 : decode cX7_done 112 = .ok (.ireturn, 1) := by decide +kernel
theorem dX7_done_113 : decode cX7_done 113 = .ok (.iload_n 1, 1) := by decide +kernel
theorem dX7_done_114 : decode cX7_done 114 = .ok (.iload_n 2, 1) := by decide +kernel
theorem dX7_done_115 : decode cX7_done 115 = .ok (.iadd, 1) := by decide +kernel
theorem dX7_done_116 : decode cX7_done 116 = .ok (.ireturn, 1) := by decide +kernel
theorem dX7_done_117 : decode cX7_done 117 = .ok (.iload_n 1, 1) := by decide +kernel
theorem dX7_done_118 : decode cX7_done 118 = .ok (.iload_n 2, 1) := by decide +kernel
theorem dX7_done_119 : decode cX7_done 119 = .ok (.isub, 1) := by decide +kernel
theorem dX7_done_120 : decode cX7_done 120 = .ok (.ireturn, 1) := by decide +kernel
theorem dX7_done_121 : decode cX7_done 121 = .ok (.iload_n 1, 1) := by decide +kernel
theorem dX7_done_122 : decode cX7_done 122 = .ok (.iload_n 2, 1) := by decide +kernel
theorem dX7_done_123 : decode cX7_done 123 = .ok (.imul, 1) := by decide +kernel
theorem dX7_done_124 : decode cX7_done 124 = .ok (.ireturn, 1) := by decide +kernel
theorem dX7_done_125 : decode cX7_done 125 = .ok (.iload_n 2, 1) := by decide +kernel
theorem dX7_done_126 : decode cX7_done 126 = .ok (.ifCond .ne 7, 3) := by decide +kernel
theorem dX7_done_129 : decode cX7_done 129 = .ok (.iconst 0, 1) := by decide +kernel
theorem dX7_done_130 : decode cX7_done 130 = .ok (.goto 6, 3) := by decide +kernel
theorem dX7_done_133 : decode cX7_done 133 = .ok (.iload_n 1, 1) := by decide +kernel
theorem dX7_done_134 : decode cX7_done 134 = .ok (.iload_n 2, 1) := by decide +kernel
theorem dX7_done_135 : decode cX7_done 135 = .ok (.idiv, 1) := by decide +kernel
theorem dX7_done_136 : decode cX7_done 136 = .ok (.ireturn, 1) := by decide +kernel
theorem dX7_done_137 : decode cX7_done 137 = .ok (.iload_n 2, 1) := by decide +kernel
theorem dX7_done_138 : decode cX7_done 138 = .ok (.ifCond .ne 7, 3) := by decide +kernel
theorem dX7_done_141 : decode cX7_done 141 = .ok (.iconst 0, 1) := by decide +kernel
theorem dX7_done_142 : decode cX7_done 142 = .ok (.goto 6, 3) := by decide +kernel
theorem dX7_done_145 : decode cX7_done 145 = .ok (.iload_n 1, 1) := by decide +kernel
theorem dX7_done_146 : decode cX7_done 146 = .ok (.iload_n 2, 1) := by decide +kernel
theorem dX7_done_147 : decode cX7_done 147 = .ok (.irem, 1) := by decide +kernel
theorem dX7_done_148 : decode cX7_done 148 = .ok (.ireturn, 1) := by decide +kernel
theorem dX7_worked_0 : decode cX7_worked 0 = .ok (.iconst 0, 1) := by decide +kernel
theorem dX7_worked_1 : decode cX7_worked 1 = .ok (.istore_n 2, 1) := by decide +kernel
theorem dX7_worked_2 : decode cX7_worked 2 = .ok (.iload_n 1, 1) := by decide +kernel
theorem dX7_worked_3 : decode cX7_worked 3 = .ok (.istore_n 3, 1) := by decide +kernel
theorem dX7_worked_4 : decode cX7_worked 4 = .ok (.iload_n 3, 1) := by decide +kernel
theorem dX7_worked_5 : decode cX7_worked 5 = .ok (.iload_n 1, 1) := by decide +kernel
theorem dX7_worked_6 : decode cX7_worked 6 = .ok (.aload_n 0, 1) := by decide +kernel
theorem dX7_worked_7 : decode cX7_worked 7 = .ok (.getfield 9, 3) := by decide +kernel
theorem dX7_worked_10 : decode cX7_worked 10 = .ok (.iload_n 1, 1) := by decide +kernel
theorem dX7_worked_11 : decode cX7_worked 11 = .ok (.iconst 1, 1) := by decide +kernel
theorem dX7_worked_12 : decode cX7_worked 12 = .ok (.isub, 1) := by decide +kernel
theorem dX7_worked_13 : decode cX7_worked 13 = .ok (.iaload, 1) := by decide +kernel
theorem dX7_worked_14 : decode cX7_worked 14 = .ok (.iadd, 1) := by decide +kernel
theorem dX7_worked_15 : decode cX7_worked 15 = .ok (.if_icmp .ge 126, 3) := by decide +kernel
theorem dX7_worked_18 : decode cX7_worked 18 = .ok (.aload_n 0, 1) := by decide +kernel
theorem dX7_worked_19 : decode cX7_worked 19 = .ok (.getfield 9, 3) := by decide +kernel
theorem dX7_worked_22 : decode cX7_worked 22 = .ok (.iload_n 3, 1) := by decide +kernel
theorem dX7_worked_23 : decode cX7_worked 23 = .ok (.iaload, 1) := by decide +kernel
theorem dX7_worked_24 : decode cX7_worked 24 = .ok (.istore 4, 2) := by decide +kernel
theorem dX7_worked_26 : decode cX7_worked 26 = .ok (.iload 4, 2) := by decide +kernel
theorem dX7_worked_28 : decode cX7_worked 28 = .ok (.sipush 20000, 3) := by decide +kernel
theorem dX7_worked_31 : decode cX7_worked 31 = .ok (.if_icmp .ge 39, 3) := by decide +kernel
theorem dX7_worked_34 : decode cX7_worked 34 = .ok (.aload_n 0, 1) := by decide +kernel
theorem dX7_worked_35 : decode cX7_worked 35 = .ok (.getfield 41, 3) := by decide +kernel
theorem dX7_worked_38 : decode cX7_worked 38 = .ok (.iload_n 2, 1) := by decide +kernel
theorem dX7_worked_39 : decode cX7_worked 39 = .ok (.iload 4, 2) := by decide +kernel
theorem dX7_worked_41 : decode cX7_worked 41 = .ok (.sipush 10000, 3) := by decide +kernel
theorem dX7_worked_44 : decode cX7_worked 44 = .ok (.if_icmp .ge 8, 3) := by decide +kernel
theorem dX7_worked_47 : decode cX7_worked 47 = .ok (.iload 4, 2) := by decide +kernel
theorem dX7_worked_49 : decode cX7_worked 49 = .ok (.goto 14, 3) := by decide +kernel
theorem dX7_worked_52 : decode cX7_worked 52 = .ok (.aload_n 0, 1) := by decide +kernel
theorem dX7_worked_53 : decode cX7_worked 53 = .ok (.getfield 38, 3) := by decide +kernel
theorem dX7_worked_56 : decode cX7_worked 56 = .ok (.iload 4, 2) := by decide +kernel
theorem dX7_worked_58 : decode cX7_worked 58 = .ok (.sipush 10000, 3) := by decide +kernel
theorem dX7_worked_61 : decode cX7_worked 61 = .ok (.isub, 1) := by decide +kernel
theorem dX7_worked_62 : decode cX7_worked 62 = .ok (.iaload, 1) := by decide +kernel
theorem dX7_worked_63 : decode cX7_worked 63 = .ok (.iastore, 1) := by decide +kernel
theorem dX7_worked_64 : decode cX7_worked 64 = .ok (.iinc 2 1, 3) := by decide +kernel
theorem dX7_worked_67 : decode cX7_worked 67 = .ok (.goto 68, 3) := by decide +kernel
theorem dX7_worked_70 : decode cX7_worked 70 = .ok (.iload 4, 2) := by decide +kernel
theorem dX7_worked_72 : decode cX7_worked 72 = .ok (.sipush 20010, 3) := by decide +kernel
theorem dX7_worked_75 : decode cX7_worked 75 = .ok (.if_icmp .ne 30, 3) := by decide +kernel
theorem dX7_worked_78 : decode cX7_worked 78 = .ok (.aload_n 0, 1) := by decide +kernel
theorem dX7_worked_79 : decode cX7_worked 79 = .ok (.getfield 41, 3) := by decide +kernel
theorem dX7_worked_82 : decode cX7_worked 82 = .ok (.iload_n 2, 1) := by decide +kernel
theorem dX7_worked_83 : decode cX7_worked 83 = .ok (.iconst 1, 1) := by decide +kernel
theorem dX7_worked_84 : decode cX7_worked 84 = .ok (.isub, 1) := by decide +kernel
theorem dX7_worked_85 : decode cX7_worked 85 = .ok (.aload_n 0, 1) := by decide +kernel
theorem dX7_worked_86 : decode cX7_worked 86 = .ok (.getfield 41, 3) := by decide +kernel
theorem dX7_worked_89 : decode cX7_worked 89 = .ok (.iload_n 2, 1) := by decide +kernel
theorem dX7_worked_90 : decode cX7_worked 90 = .ok (.iconst 1, 1) := by decide +kernel
theorem dX7_worked_91 : decode cX7_worked 91 = .ok (.isub, 1) := by decide +kernel
theorem dX7_worked_92 : decode cX7_worked 92 = .ok (.iaload, 1) := by decide +kernel
theorem dX7_worked_93 : decode cX7_worked 93 = .ok (.ifCond .ne 7, 3) := by decide +kernel
theorem dX7_worked_96 : decode cX7_worked 96 = .ok (.iconst 1, 1) := by decide +kernel
theorem dX7_worked_97 : decode cX7_worked 97 = .ok (.goto 4, 3) := by decide +kernel
theorem dX7_worked_100 : decode cX7_worked 100 = .ok (.iconst 0, 1) := by decide +kernel
theorem dX7_worked_101 : decode cX7_worked 101 = .ok (.iastore, 1) := by decide +kernel
theorem dX7_worked_102 : decode cX7_worked 102 = .ok (.goto 33, 3) := by decide +kernel
theorem dX7_worked_105 : decode cX7_worked 105 = .ok (.iinc 2 (-1), 3) := by decide +kernel
theorem dX7_worked_108 : decode cX7_worked 108 = .ok (.aload_n 0, 1) := by decide +kernel
theorem dX7_worked_109 : decode cX7_worked 109 = .ok (.getfield 41, 3) := by decide +kernel
theorem dX7_worked_112 : decode cX7_worked 112 = .ok (.iload_n 2, 1) := by decide +kernel
theorem dX7_worked_113 : decode cX7_worked 113 = .ok (.iconst 1, 1) := by decide +kernel
theorem dX7_worked_114 : decode cX7_worked 114 = .ok (.isub, 1) := by decide +kernel
theorem dX7_worked_115 : decode cX7_worked 115 = .ok (.iload 4, 2) := by decide +kernel
theorem dX7_worked_117 : decode cX7_worked 117 = .ok (.aload_n 0, 1) := by decide +kernel
theorem dX7_worked_118 : decode cX7_worked 118 = .ok (.getfield 41, 3) := by decide +kernel
theorem dX7_worked_121 : decode cX7_worked 121 = .ok (.iload_n 2, 1) := by decide +kernel
theorem dX7_worked_122 : decode cX7_worked 122 = .ok (.iconst 1, 1) := by decide +kernel
theorem dX7_worked_123 : decode cX7_worked 123 = .ok (.isub, 1) := by decide +kernel
theorem dX7_worked_124 : decode cX7_worked 124 = .ok (.iaload, 1) := by decide +kernel
theorem dX7_worked_125 : decode cX7_worked 125 = .ok (.aload_n 0, 1) := by decide +kernel
theorem dX7_worked_126 : decode cX7_worked 126 = .ok (.getfield 41, 3) := by decide +kernel
theorem dX7_worked_129 : decode cX7_worked 129 = .ok (.iload_n 2, 1) := by decide +kernel
theorem dX7_worked_130 : decode cX7_worked 130 = .ok (.iaload, 1) := by decide +kernel
theorem dX7_worked_131 : decode cX7_worked 131 = .ok (.invokestatic 142, 3) := by decide +kernel
theorem dX7_worked_134 : decode cX7_worked 134 = .ok (.iastore, 1) := by decide +kernel
theorem dX7_worked_135 : decode cX7_worked 135 = .ok (.iinc 3 1, 3) := by decide +kernel
theorem dX7_worked_138 : decode cX7_worked 138 = .ok (.goto (-134), 3) := by decide +kernel
theorem dX7_worked_141 : decode cX7_worked 141 = .ok (.aload_n 0, 1) := by decide +kernel
theorem dX7_worked_142 : decode cX7_worked 142 = .ok (.getfield 41, 3) := by decide +kernel
theorem dX7_worked_145 : decode cX7_worked 145 = .ok (.iconst 0, 1) := by decide +kernel
theorem dX7_worked_146 : decode cX7_worked 146 = .ok (.iaload, 1) := by decide +kernel
theorem dX7_worked_147 : decode cX7_worked 147 = .ok (.ireturn, 1) := by decide +kernel
theorem dX7_hasText_0 : decode cX7_hasText 0 = .ok (.aload_n 0, 1) := by decide +kernel
theorem dX7_hasText_1 : decode cX7_hasText 1 = .ok (.getfield 9, 3) := by decide +kernel
theorem dX7_hasText_4 : decode cX7_hasText 4 = .ok (.bipush 117, 2) := by decide +kernel
theorem dX7_hasText_6 : decode cX7_hasText 6 = .ok (.bipush 52, 2) := by decide +kernel
theorem dX7_hasText_8 : decode cX7_hasText 8 = .ok (.iload_n 1, 1) := by decide +kernel
theorem dX7_hasText_9 : decode cX7_hasText 9 = .ok (.imul, 1) := by decide +kernel
theorem dX7_hasText_10 : decode cX7_hasText 10 = .ok (.iadd, 1) := by decide +kernel
theorem dX7_hasText_11 : decode cX7_hasText 11 = .ok (.iaload, 1) := by decide +kernel
theorem dX7_hasText_12 : decode cX7_hasText 12 = .ok (.ifCond .le 7, 3) := by decide +kernel
theorem dX7_hasText_15 : decode cX7_hasText 15 = .ok (.iconst 1, 1) := by decide +kernel
theorem dX7_hasText_16 : decode cX7_hasText 16 = .ok (.goto 4, 3) := by decide +kernel
theorem dX7_hasText_19 : decode cX7_hasText 19 = .ok (.iconst 0, 1) := by decide +kernel
theorem dX7_hasText_20 : decode cX7_hasText 20 = .ok (.ireturn, 1) := by decide +kernel
theorem dX7_given_0 : decode cX7_given 0 = .ok (.aload_n 0, 1) := by decide +kernel
theorem dX7_given_1 : decode cX7_given 1 = .ok (.getfield 38, 3) := by decide +kernel
theorem dX7_given_4 : decode cX7_given 4 = .ok (.iconst 0, 1) := by decide +kernel
theorem dX7_given_5 : decode cX7_given 5 = .ok (.iload_n 2, 1) := by decide +kernel
theorem dX7_given_6 : decode cX7_given 6 = .ok (.iastore, 1) := by decide +kernel
theorem dX7_given_7 : decode cX7_given 7 = .ok (.aload_n 0, 1) := by decide +kernel
theorem dX7_given_8 : decode cX7_given 8 = .ok (.getfield 38, 3) := by decide +kernel
theorem dX7_given_11 : decode cX7_given 11 = .ok (.iconst 1, 1) := by decide +kernel
theorem dX7_given_12 : decode cX7_given 12 = .ok (.iload_n 3, 1) := by decide +kernel
theorem dX7_given_13 : decode cX7_given 13 = .ok (.iastore, 1) := by decide +kernel
theorem dX7_given_14 : decode cX7_given 14 = .ok (.aload_n 0, 1) := by decide +kernel
theorem dX7_given_15 : decode cX7_given 15 = .ok (.getfield 38, 3) := by decide +kernel
theorem dX7_given_18 : decode cX7_given 18 = .ok (.iconst 2, 1) := by decide +kernel
theorem dX7_given_19 : decode cX7_given 19 = .ok (.iload 4, 2) := by decide +kernel
theorem dX7_given_21 : decode cX7_given 21 = .ok (.iastore, 1) := by decide +kernel
theorem dX7_given_22 : decode cX7_given 22 = .ok (.iload_n 1, 1) := by decide +kernel
theorem dX7_given_23 : decode cX7_given 23 = .ok (.ifCond .ne 11, 3) := by decide +kernel
theorem dX7_given_26 : decode cX7_given 26 = .ok (.iload_n 2, 1) := by decide +kernel
theorem dX7_given_27 : decode cX7_given 27 = .ok (.iload_n 3, 1) := by decide +kernel
theorem dX7_given_28 : decode cX7_given 28 = .ok (.iadd, 1) := by decide +kernel
theorem dX7_given_29 : decode cX7_given 29 = .ok (.iconst 2, 1) := by decide +kernel
theorem dX7_given_30 : decode cX7_given 30 = .ok (.idiv, 1) := by decide +kernel
theorem dX7_given_31 : decode cX7_given 31 = .ok (.goto 4, 3) := by decide +kernel
theorem dX7_given_34 : decode cX7_given 34 = .ok (.iconst 1, 1) := by decide +kernel
theorem dX7_given_35 : decode cX7_given 35 = .ok (.istore 5, 2) := by decide +kernel
theorem dX7_given_37 : decode cX7_given 37 = .ok (.aload_n 0, 1) := by decide +kernel
theorem dX7_given_38 : decode cX7_given 38 = .ok (.iload_n 1, 1) := by decide +kernel
theorem dX7_given_39 : decode cX7_given 39 = .ok (.invokevirtual 146, 3) := by decide +kernel
theorem dX7_given_42 : decode cX7_given 42 = .ok (.ifCond .eq 19, 3) := by decide +kernel
theorem dX7_given_45 : decode cX7_given 45 = .ok (.aload_n 0, 1) := by decide +kernel
theorem dX7_given_46 : decode cX7_given 46 = .ok (.bipush 117, 2) := by decide +kernel
theorem dX7_given_48 : decode cX7_given 48 = .ok (.bipush 52, 2) := by decide +kernel
theorem dX7_given_50 : decode cX7_given 50 = .ok (.iload_n 1, 1) := by decide +kernel
theorem dX7_given_51 : decode cX7_given 51 = .ok (.imul, 1) := by decide +kernel
theorem dX7_given_52 : decode cX7_given 52 = .ok (.iadd, 1) := by decide +kernel
theorem dX7_given_53 : decode cX7_given 53 = .ok (.iconst 1, 1) := by decide +kernel
theorem dX7_given_54 : decode cX7_given 54 = .ok (.iadd, 1) := by decide +kernel
theorem dX7_given_55 : decode cX7_given 55 = .ok (.invokevirtual 149, 3) := by decide +kernel
theorem dX7_given_58 : decode cX7_given 58 = .ok (.goto 5, 3) := by decide +kernel
theorem dX7_given_61 : decode cX7_given 61 = .ok (.iload 5, 2) := by decide +kernel
theorem dX7_given_63 : decode cX7_given 63 = .ok (.iconst 0, 1) := by decide +kernel
theorem dX7_given_64 : decode cX7_given 64 = .ok (.iload_n 1, 1) := by decide +kernel
theorem dX7_given_65 : decode cX7_given 65 = .ok (.ifCond .ne 9, 3) := by decide +kernel
theorem dX7_given_68 : decode cX7_given 68 = .ok (.sipush 999, 3) := by decide +kernel
theorem dX7_given_71 : decode cX7_given 71 = .ok (.goto 4, 3) := by decide +kernel
theorem dX7_given_74 : decode cX7_given 74 = .ok (.iconst 1, 1) := by decide +kernel
theorem dX7_given_75 : decode cX7_given 75 = .ok (.invokestatic 152, 3) := by decide +kernel
theorem dX7_given_78 : decode cX7_given 78 = .ok (.ireturn, 1) := by decide +kernel
theorem dX7_law_0 : decode cX7_law 0 = .ok (.iload_n 1, 1) := by decide +kernel
theorem dX7_law_1 : decode cX7_law 1 = .ok (.iconst 0, 1) := by decide +kernel
theorem dX7_law_2 : decode cX7_law 2 = .ok (.iconst 1, 1) := by decide +kernel
theorem dX7_law_3 : decode cX7_law 3 = .ok (.invokestatic 73, 3) := by decide +kernel
theorem dX7_law_6 : decode cX7_law 6 = .ok (.ifCond .eq 15, 3) := by decide +kernel
theorem dX7_law_9 : decode cX7_law 9 = .ok (.aload_n 0, 1) := by decide +kernel
theorem dX7_law_10 : decode cX7_law 10 = .ok (.iload_n 1, 1) := by decide +kernel
theorem dX7_law_11 : decode cX7_law 11 = .ok (.iload_n 2, 1) := by decide +kernel
theorem dX7_law_12 : decode cX7_law 12 = .ok (.iload_n 3, 1) := by decide +kernel
theorem dX7_law_13 : decode cX7_law 13 = .ok (.iload 4, 2) := by decide +kernel
theorem dX7_law_15 : decode cX7_law 15 = .ok (.invokevirtual 155, 3) := by decide +kernel
theorem dX7_law_18 : decode cX7_law 18 = .ok (.goto 9, 3) := by decide +kernel
theorem dX7_law_21 : decode cX7_law 21 = .ok (.aload_n 0, 1) := by decide +kernel
theorem dX7_law_22 : decode cX7_law 22 = .ok (.ldc 77, 2) := by decide +kernel
theorem dX7_law_24 : decode cX7_law 24 = .ok (.invokevirtual 78, 3) := by decide +kernel
theorem dX7_law_27 : decode cX7_law 27 = .ok (.ireturn, 1) := by decide +kernel
theorem dX7_isGuest_0 : decode cX7_isGuest 0 = .ok (.iload_n 1, 1) := by decide +kernel
theorem dX7_isGuest_1 : decode cX7_isGuest 1 = .ok (.iconst 0, 1) := by decide +kernel
theorem dX7_isGuest_2 : decode cX7_isGuest 2 = .ok (.aload_n 0, 1) := by decide +kernel
theorem dX7_isGuest_3 : decode cX7_isGuest 3 = .ok (.getfield 9, 3) := by decide +kernel
theorem dX7_isGuest_6 : decode cX7_isGuest 6 = .ok (.iconst 1, 1) := by decide +kernel
theorem dX7_isGuest_7 : decode cX7_isGuest 7 = .ok (.iaload, 1) := by decide +kernel
theorem dX7_isGuest_8 : decode cX7_isGuest 8 = .ok (.iconst 1, 1) := by decide +kernel
theorem dX7_isGuest_9 : decode cX7_isGuest 9 = .ok (.isub, 1) := by decide +kernel
theorem dX7_isGuest_10 : decode cX7_isGuest 10 = .ok (.invokestatic 73, 3) := by decide +kernel
theorem dX7_isGuest_13 : decode cX7_isGuest 13 = .ok (.ireturn, 1) := by decide +kernel
theorem dX7_areTwo_0 : decode cX7_areTwo 0 = .ok (.aload_n 0, 1) := by decide +kernel
theorem dX7_areTwo_1 : decode cX7_areTwo 1 = .ok (.iload_n 1, 1) := by decide +kernel
theorem dX7_areTwo_2 : decode cX7_areTwo 2 = .ok (.invokevirtual 159, 3) := by decide +kernel
theorem dX7_areTwo_5 : decode cX7_areTwo 5 = .ok (.ifCond .eq 20, 3) := by decide +kernel
theorem dX7_areTwo_8 : decode cX7_areTwo 8 = .ok (.aload_n 0, 1) := by decide +kernel
theorem dX7_areTwo_9 : decode cX7_areTwo 9 = .ok (.iload_n 2, 1) := by decide +kernel
theorem dX7_areTwo_10 : decode cX7_areTwo 10 = .ok (.invokevirtual 159, 3) := by decide +kernel
theorem dX7_areTwo_13 : decode cX7_areTwo 13 = .ok (.ifCond .eq 12, 3) := by decide +kernel
theorem dX7_areTwo_16 : decode cX7_areTwo 16 = .ok (.iload_n 1, 1) := by decide +kernel
theorem dX7_areTwo_17 : decode cX7_areTwo 17 = .ok (.iload_n 2, 1) := by decide +kernel
theorem dX7_areTwo_18 : decode cX7_areTwo 18 = .ok (.if_icmp .eq 7, 3) := by decide +kernel
theorem dX7_areTwo_21 : decode cX7_areTwo 21 = .ok (.iconst 1, 1) := by decide +kernel
theorem dX7_areTwo_22 : decode cX7_areTwo 22 = .ok (.goto 4, 3) := by decide +kernel
theorem dX7_areTwo_25 : decode cX7_areTwo 25 = .ok (.iconst 0, 1) := by decide +kernel
theorem dX7_areTwo_26 : decode cX7_areTwo 26 = .ok (.ireturn, 1) := by decide +kernel
theorem dX7_isRue_0 : decode cX7_isRue 0 = .ok (.iload_n 0, 1) := by decide +kernel
theorem dX7_isRue_1 : decode cX7_isRue 1 = .ok (.iconst 0, 1) := by decide +kernel
theorem dX7_isRue_2 : decode cX7_isRue 2 = .ok (.sipush 999, 3) := by decide +kernel
theorem dX7_isRue_5 : decode cX7_isRue 5 = .ok (.invokestatic 73, 3) := by decide +kernel
theorem dX7_isRue_8 : decode cX7_isRue 8 = .ok (.ireturn, 1) := by decide +kernel
theorem dX7_guestAt_0 : decode cX7_guestAt 0 = .ok (.bipush 12, 2) := by decide +kernel
theorem dX7_guestAt_2 : decode cX7_guestAt 2 = .ok (.iconst 5, 1) := by decide +kernel
theorem dX7_guestAt_3 : decode cX7_guestAt 3 = .ok (.iload_n 0, 1) := by decide +kernel
theorem dX7_guestAt_4 : decode cX7_guestAt 4 = .ok (.imul, 1) := by decide +kernel
theorem dX7_guestAt_5 : decode cX7_guestAt 5 = .ok (.iadd, 1) := by decide +kernel
theorem dX7_guestAt_6 : decode cX7_guestAt 6 = .ok (.iload_n 1, 1) := by decide +kernel
theorem dX7_guestAt_7 : decode cX7_guestAt 7 = .ok (.iadd, 1) := by decide +kernel
theorem dX7_guestAt_8 : decode cX7_guestAt 8 = .ok (.ireturn, 1) := by decide +kernel
theorem dX7_guestIs_0 : decode cX7_guestIs 0 = .ok (.aload_n 0, 1) := by decide +kernel
theorem dX7_guestIs_1 : decode cX7_guestIs 1 = .ok (.getfield 9, 3) := by decide +kernel
theorem dX7_guestIs_4 : decode cX7_guestIs 4 = .ok (.iload_n 1, 1) := by decide +kernel
theorem dX7_guestIs_5 : decode cX7_guestIs 5 = .ok (.iload_n 2, 1) := by decide +kernel
theorem dX7_guestIs_6 : decode cX7_guestIs 6 = .ok (.invokestatic 162, 3) := by decide +kernel
theorem dX7_guestIs_9 : decode cX7_guestIs 9 = .ok (.iaload, 1) := by decide +kernel
theorem dX7_guestIs_10 : decode cX7_guestIs 10 = .ok (.ireturn, 1) := by decide +kernel
theorem dX7_rue_0 : decode cX7_rue 0 = .ok (.aload_n 0, 1) := by decide +kernel
theorem dX7_rue_1 : decode cX7_rue 1 = .ok (.iload_n 1, 1) := by decide +kernel
theorem dX7_rue_2 : decode cX7_rue 2 = .ok (.iconst 2, 1) := by decide +kernel
theorem dX7_rue_3 : decode cX7_rue 3 = .ok (.invokevirtual 165, 3) := by decide +kernel
theorem dX7_rue_6 : decode cX7_rue 6 = .ok (.ireturn, 1) := by decide +kernel
theorem dX7_isKindM_0 : decode cX7_isKindM 0 = .ok (.iload_n 0, 1) := by decide +kernel
theorem dX7_isKindM_1 : decode cX7_isKindM 1 = .ok (.iconst 0, 1) := by decide +kernel
theorem dX7_isKindM_2 : decode cX7_isKindM 2 = .ok (.bipush 69, 2) := by decide +kernel
theorem dX7_isKindM_4 : decode cX7_isKindM 4 = .ok (.invokestatic 73, 3) := by decide +kernel
theorem dX7_isKindM_7 : decode cX7_isKindM 7 = .ok (.ireturn, 1) := by decide +kernel
theorem dX7_comes_0 : decode cX7_comes 0 = .ok (.aload_n 0, 1) := by decide +kernel
theorem dX7_comes_1 : decode cX7_comes 1 = .ok (.getfield 9, 3) := by decide +kernel
theorem dX7_comes_4 : decode cX7_comes 4 = .ok (.iconst 1, 1) := by decide +kernel
theorem dX7_comes_5 : decode cX7_comes 5 = .ok (.iaload, 1) := by decide +kernel
theorem dX7_comes_6 : decode cX7_comes 6 = .ok (.istore_n 3, 1) := by decide +kernel
theorem dX7_comes_7 : decode cX7_comes 7 = .ok (.aload_n 0, 1) := by decide +kernel
theorem dX7_comes_8 : decode cX7_comes 8 = .ok (.getfield 9, 3) := by decide +kernel
theorem dX7_comes_11 : decode cX7_comes 11 = .ok (.iload_n 3, 1) := by decide +kernel
theorem dX7_comes_12 : decode cX7_comes 12 = .ok (.iconst 0, 1) := by decide +kernel
theorem dX7_comes_13 : decode cX7_comes 13 = .ok (.invokestatic 162, 3) := by decide +kernel
theorem dX7_comes_16 : decode cX7_comes 16 = .ok (.iload_n 1, 1) := by decide +kernel
theorem dX7_comes_17 : decode cX7_comes 17 = .ok (.bipush 10, 2) := by decide +kernel
theorem dX7_comes_19 : decode cX7_comes 19 = .ok (.idiv, 1) := by decide +kernel
theorem dX7_comes_20 : decode cX7_comes 20 = .ok (.iastore, 1) := by decide +kernel
theorem dX7_comes_21 : decode cX7_comes 21 = .ok (.aload_n 0, 1) := by decide +kernel
theorem dX7_comes_22 : decode cX7_comes 22 = .ok (.getfield 9, 3) := by decide +kernel
theorem dX7_comes_25 : decode cX7_comes 25 = .ok (.iload_n 3, 1) := by decide +kernel
theorem dX7_comes_26 : decode cX7_comes 26 = .ok (.iconst 1, 1) := by decide +kernel
theorem dX7_comes_27 : decode cX7_comes 27 = .ok (.invokestatic 162, 3) := by decide +kernel
theorem dX7_comes_30 : decode cX7_comes 30 = .ok (.iload_n 1, 1) := by decide +kernel
theorem dX7_comes_31 : decode cX7_comes 31 = .ok (.bipush 10, 2) := by decide +kernel
theorem dX7_comes_33 : decode cX7_comes 33 = .ok (.irem, 1) := by decide +kernel
theorem dX7_comes_34 : decode cX7_comes 34 = .ok (.iastore, 1) := by decide +kernel
theorem dX7_comes_35 : decode cX7_comes 35 = .ok (.aload_n 0, 1) := by decide +kernel
theorem dX7_comes_36 : decode cX7_comes 36 = .ok (.getfield 9, 3) := by decide +kernel
theorem dX7_comes_39 : decode cX7_comes 39 = .ok (.iload_n 3, 1) := by decide +kernel
theorem dX7_comes_40 : decode cX7_comes 40 = .ok (.iconst 2, 1) := by decide +kernel
theorem dX7_comes_41 : decode cX7_comes 41 = .ok (.invokestatic 162, 3) := by decide +kernel
theorem dX7_comes_44 : decode cX7_comes 44 = .ok (.iload_n 2, 1) := by decide +kernel
theorem dX7_comes_45 : decode cX7_comes 45 = .ok (.iastore, 1) := by decide +kernel
theorem dX7_comes_46 : decode cX7_comes 46 = .ok (.aload_n 0, 1) := by decide +kernel
theorem dX7_comes_47 : decode cX7_comes 47 = .ok (.getfield 9, 3) := by decide +kernel
theorem dX7_comes_50 : decode cX7_comes 50 = .ok (.iload_n 3, 1) := by decide +kernel
theorem dX7_comes_51 : decode cX7_comes 51 = .ok (.iconst 3, 1) := by decide +kernel
theorem dX7_comes_52 : decode cX7_comes 52 = .ok (.invokestatic 162, 3) := by decide +kernel
theorem dX7_comes_55 : decode cX7_comes 55 = .ok (.iconst 0, 1) := by decide +kernel
theorem dX7_comes_56 : decode cX7_comes 56 = .ok (.iastore, 1) := by decide +kernel
theorem dX7_comes_57 : decode cX7_comes 57 = .ok (.aload_n 0, 1) := by decide +kernel
theorem dX7_comes_58 : decode cX7_comes 58 = .ok (.getfield 9, 3) := by decide +kernel
theorem dX7_comes_61 : decode cX7_comes 61 = .ok (.iload_n 3, 1) := by decide +kernel
theorem dX7_comes_62 : decode cX7_comes 62 = .ok (.iconst 4, 1) := by decide +kernel
theorem dX7_comes_63 : decode cX7_comes 63 = .ok (.invokestatic 162, 3) := by decide +kernel
theorem dX7_comes_66 : decode cX7_comes 66 = .ok (.iconst 1, 1) := by decide +kernel
theorem dX7_comes_67 : decode cX7_comes 67 = .ok (.iastore, 1) := by decide +kernel
theorem dX7_comes_68 : decode cX7_comes 68 = .ok (.aload_n 0, 1) := by decide +kernel
theorem dX7_comes_69 : decode cX7_comes 69 = .ok (.getfield 9, 3) := by decide +kernel
theorem dX7_comes_72 : decode cX7_comes 72 = .ok (.iconst 5, 1) := by decide +kernel
theorem dX7_comes_73 : decode cX7_comes 73 = .ok (.iload_n 3, 1) := by decide +kernel
theorem dX7_comes_74 : decode cX7_comes 74 = .ok (.iadd, 1) := by decide +kernel
theorem dX7_comes_75 : decode cX7_comes 75 = .ok (.iload_n 3, 1) := by decide +kernel
theorem dX7_comes_76 : decode cX7_comes 76 = .ok (.iastore, 1) := by decide +kernel
theorem dX7_comes_77 : decode cX7_comes 77 = .ok (.aload_n 0, 1) := by decide +kernel
theorem dX7_comes_78 : decode cX7_comes 78 = .ok (.getfield 9, 3) := by decide +kernel
theorem dX7_comes_81 : decode cX7_comes 81 = .ok (.iconst 1, 1) := by decide +kernel
theorem dX7_comes_82 : decode cX7_comes 82 = .ok (.dup2, 1) := by decide +kernel
theorem dX7_comes_83 : decode cX7_comes 83 = .ok (.iaload, 1) := by decide +kernel
theorem dX7_comes_84 : decode cX7_comes 84 = .ok (.iconst 1, 1) := by decide +kernel
theorem dX7_comes_85 : decode cX7_comes 85 = .ok (.iadd, 1) := by decide +kernel
theorem dX7_comes_86 : decode cX7_comes 86 = .ok (.iastore, 1) := by decide +kernel
theorem dX7_comes_87 : decode cX7_comes 87 = .ok (.iload_n 3, 1) := by decide +kernel
theorem dX7_comes_88 : decode cX7_comes 88 = .ok (.ireturn, 1) := by decide +kernel
theorem dX7_guest_0 : decode cX7_guest 0 = .ok (.iload_n 1, 1) := by decide +kernel
theorem dX7_guest_1 : decode cX7_guest 1 = .ok (.invokestatic 168, 3) := by decide +kernel
theorem dX7_guest_4 : decode cX7_guest 4 = .ok (.ifCond .eq 10, 3) := by decide +kernel
theorem dX7_guest_7 : decode cX7_guest 7 = .ok (.iload_n 2, 1) := by decide +kernel
theorem dX7_guest_8 : decode cX7_guest 8 = .ok (.invokestatic 171, 3) := by decide +kernel
theorem dX7_guest_11 : decode cX7_guest 11 = .ok (.ifCond .ne 10, 3) := by decide +kernel
theorem dX7_guest_14 : decode cX7_guest 14 = .ok (.aload_n 0, 1) := by decide +kernel
theorem dX7_guest_15 : decode cX7_guest 15 = .ok (.ldc 77, 2) := by decide +kernel
theorem dX7_guest_17 : decode cX7_guest 17 = .ok (.invokevirtual 78, 3) := by decide +kernel
theorem dX7_guest_20 : decode cX7_guest 20 = .ok (.ireturn, 1) := by decide +kernel
theorem dX7_guest_21 : decode cX7_guest 21 = .ok (.aload_n 0, 1) := by decide +kernel
theorem dX7_guest_22 : decode cX7_guest 22 = .ok (.getfield 9, 3) := by decide +kernel
theorem dX7_guest_25 : decode cX7_guest 25 = .ok (.iconst 1, 1) := by decide +kernel
theorem dX7_guest_26 : decode cX7_guest 26 = .ok (.iaload, 1) := by decide +kernel
theorem dX7_guest_27 : decode cX7_guest 27 = .ok (.bipush 7, 2) := by decide +kernel
theorem dX7_guest_29 : decode cX7_guest 29 = .ok (.if_icmp .ne 12, 3) := by decide +kernel
theorem dX7_guest_32 : decode cX7_guest 32 = .ok (.aload_n 0, 1) := by decide +kernel
theorem dX7_guest_33 : decode cX7_guest 33 = .ok (.ldc 82, 2) := by decide +kernel
theorem dX7_guest_35 : decode cX7_guest 35 = .ok (.invokevirtual 78, 3) := by decide +kernel
theorem dX7_guest_38 : decode cX7_guest 38 = .ok (.goto 9, 3) := by decide +kernel
theorem dX7_guest_41 : decode cX7_guest 41 = .ok (.aload_n 0, 1) := by decide +kernel
theorem dX7_guest_42 : decode cX7_guest 42 = .ok (.iload_n 1, 1) := by decide +kernel
theorem dX7_guest_43 : decode cX7_guest 43 = .ok (.iload_n 2, 1) := by decide +kernel
theorem dX7_guest_44 : decode cX7_guest 44 = .ok (.invokevirtual 174, 3) := by decide +kernel
theorem dX7_guest_47 : decode cX7_guest 47 = .ok (.ireturn, 1) := by decide +kernel
theorem dX7_above_0 : decode cX7_above 0 = .ok (.iload_n 0, 1) := by decide +kernel
theorem dX7_above_1 : decode cX7_above 1 = .ok (.ifCond .ne 7, 3) := by decide +kernel
theorem dX7_above_4 : decode cX7_above 4 = .ok (.iconst (-1), 1) := by decide +kernel
theorem dX7_above_5 : decode cX7_above 5 = .ok (.goto 32, 3) := by decide +kernel
theorem dX7_above_8 : decode cX7_above 8 = .ok (.iload_n 0, 1) := by decide +kernel
theorem dX7_above_9 : decode cX7_above 9 = .ok (.iconst 4, 1) := by decide +kernel
theorem dX7_above_10 : decode cX7_above 10 = .ok (.if_icmp .ne 7, 3) := by decide +kernel
theorem dX7_above_13 : decode cX7_above 13 = .ok (.iconst 1, 1) := by decide +kernel
theorem dX7_above_14 : decode cX7_above 14 = .ok (.goto 23, 3) := by decide +kernel
theorem dX7_above_17 : decode cX7_above 17 = .ok (.iload_n 0, 1) := by decide +kernel
theorem dX7_above_18 : decode cX7_above 18 = .ok (.iconst 5, 1) := by decide +kernel
theorem dX7_above_19 : decode cX7_above 19 = .ok (.if_icmp .ne 7, 3) := by decide +kernel
theorem dX7_above_22 : decode cX7_above 22 = .ok (.iconst 2, 1) := by decide +kernel
theorem dX7_above_23 : decode cX7_above 23 = .ok (.goto 14, 3) := by decide +kernel
theorem dX7_above_26 : decode cX7_above 26 = .ok (.iload_n 0, 1) := by decide +kernel
theorem dX7_above_27 : decode cX7_above 27 = .ok (.bipush 6, 2) := by decide +kernel
theorem dX7_above_29 : decode cX7_above 29 = .ok (.if_icmp .ne 7, 3) := by decide +kernel
theorem dX7_above_32 : decode cX7_above 32 = .ok (.iconst 3, 1) := by decide +kernel
theorem dX7_above_33 : decode cX7_above 33 = .ok (.goto 4, 3) := by decide +kernel
theorem dX7_above_36 : decode cX7_above 36 = .ok (.iconst 0, 1) := by decide +kernel
theorem dX7_above_37 : decode cX7_above 37 = .ok (.ireturn, 1) := by decide +kernel
theorem dX7_isUnder_0 : decode cX7_isUnder 0 = .ok (.iload_n 0, 1) := by decide +kernel
theorem dX7_isUnder_1 : decode cX7_isUnder 1 = .ok (.istore_n 2, 1) := by decide +kernel
theorem dX7_isUnder_2 : decode cX7_isUnder 2 = .ok (.iload_n 2, 1) := by decide +kernel
theorem dX7_isUnder_3 : decode cX7_isUnder 3 = .ok (.ifCond .lt 16, 3) := by decide +kernel
theorem dX7_isUnder_6 : decode cX7_isUnder 6 = .ok (.iload_n 2, 1) := by decide +kernel
theorem dX7_isUnder_7 : decode cX7_isUnder 7 = .ok (.iload_n 1, 1) := by decide +kernel
theorem dX7_isUnder_8 : decode cX7_isUnder 8 = .ok (.if_icmp .eq 11, 3) := by decide +kernel
theorem dX7_isUnder_11 : decode cX7_isUnder 11 = .ok (.iload_n 2, 1) := by decide +kernel
theorem dX7_isUnder_12 : decode cX7_isUnder 12 = .ok (.invokestatic 177, 3) := by decide +kernel
theorem dX7_isUnder_15 : decode cX7_isUnder 15 = .ok (.istore_n 2, 1) := by decide +kernel
theorem dX7_isUnder_16 : decode cX7_isUnder 16 = .ok (.goto (-14), 3) := by decide +kernel
theorem dX7_isUnder_19 : decode cX7_isUnder 19 = .ok (.iload_n 2, 1) := by decide +kernel
theorem dX7_isUnder_20 : decode cX7_isUnder 20 = .ok (.ifCond .lt 7, 3) := by decide +kernel
theorem dX7_isUnder_23 : decode cX7_isUnder 23 = .ok (.iconst 1, 1) := by decide +kernel
theorem dX7_isUnder_24 : decode cX7_isUnder 24 = .ok (.goto 4, 3) := by decide +kernel
theorem dX7_isUnder_27 : decode cX7_isUnder 27 = .ok (.iconst 0, 1) := by decide +kernel
theorem dX7_isUnder_28 : decode cX7_isUnder 28 = .ok (.ireturn, 1) := by decide +kernel
theorem dX7_pegOf_0 : decode cX7_pegOf 0 = .ok (.iconst 0, 1) := by decide +kernel
theorem dX7_pegOf_1 : decode cX7_pegOf 1 = .ok (.istore_n 2, 1) := by decide +kernel
theorem dX7_pegOf_2 : decode cX7_pegOf 2 = .ok (.aload_n 0, 1) := by decide +kernel
theorem dX7_pegOf_3 : decode cX7_pegOf 3 = .ok (.getfield 9, 3) := by decide +kernel
theorem dX7_pegOf_6 : decode cX7_pegOf 6 = .ok (.iconst 5, 1) := by decide +kernel
theorem dX7_pegOf_7 : decode cX7_pegOf 7 = .ok (.iload_n 2, 1) := by decide +kernel
theorem dX7_pegOf_8 : decode cX7_pegOf 8 = .ok (.iadd, 1) := by decide +kernel
theorem dX7_pegOf_9 : decode cX7_pegOf 9 = .ok (.iaload, 1) := by decide +kernel
theorem dX7_pegOf_10 : decode cX7_pegOf 10 = .ok (.iload_n 1, 1) := by decide +kernel
theorem dX7_pegOf_11 : decode cX7_pegOf 11 = .ok (.if_icmp .eq 9, 3) := by decide +kernel
theorem dX7_pegOf_14 : decode cX7_pegOf 14 = .ok (.iinc 2 1, 3) := by decide +kernel
theorem dX7_pegOf_17 : decode cX7_pegOf 17 = .ok (.goto (-15), 3) := by decide +kernel
theorem dX7_pegOf_20 : decode cX7_pegOf 20 = .ok (.iload_n 2, 1) := by decide +kernel
theorem dX7_pegOf_21 : decode cX7_pegOf 21 = .ok (.ireturn, 1) := by decide +kernel
theorem dX7_growsNow_0 : decode cX7_growsNow 0 = .ok (.aload_n 0, 1) := by decide +kernel
theorem dX7_growsNow_1 : decode cX7_growsNow 1 = .ok (.iload_n 1, 1) := by decide +kernel
theorem dX7_growsNow_2 : decode cX7_growsNow 2 = .ok (.iconst 1, 1) := by decide +kernel
theorem dX7_growsNow_3 : decode cX7_growsNow 3 = .ok (.invokevirtual 165, 3) := by decide +kernel
theorem dX7_growsNow_6 : decode cX7_growsNow 6 = .ok (.istore_n 2, 1) := by decide +kernel
theorem dX7_growsNow_7 : decode cX7_growsNow 7 = .ok (.iconst 1, 1) := by decide +kernel
theorem dX7_growsNow_8 : decode cX7_growsNow 8 = .ok (.iload_n 2, 1) := by decide +kernel
theorem dX7_growsNow_9 : decode cX7_growsNow 9 = .ok (.iconst 3, 1) := by decide +kernel
theorem dX7_growsNow_10 : decode cX7_growsNow 10 = .ok (.irem, 1) := by decide +kernel
theorem dX7_growsNow_11 : decode cX7_growsNow 11 = .ok (.iadd, 1) := by decide +kernel
theorem dX7_growsNow_12 : decode cX7_growsNow 12 = .ok (.istore_n 3, 1) := by decide +kernel
theorem dX7_growsNow_13 : decode cX7_growsNow 13 = .ok (.aload_n 0, 1) := by decide +kernel
theorem dX7_growsNow_14 : decode cX7_growsNow 14 = .ok (.iload_n 1, 1) := by decide +kernel
theorem dX7_growsNow_15 : decode cX7_growsNow 15 = .ok (.iconst 0, 1) := by decide +kernel
theorem dX7_growsNow_16 : decode cX7_growsNow 16 = .ok (.invokevirtual 165, 3) := by decide +kernel
theorem dX7_growsNow_19 : decode cX7_growsNow 19 = .ok (.tableswitch 80 1 6 #[37, 56, 75, 39, 58, 77], 37) := by decide +kernel
theorem dX7_growsNow_56 : decode cX7_growsNow 56 = .ok (.iload_n 3, 1) := by decide +kernel
theorem dX7_growsNow_57 : decode cX7_growsNow 57 = .ok (.ireturn, 1) := by decide +kernel
theorem dX7_growsNow_58 : decode cX7_growsNow 58 = .ok (.aload_n 0, 1) := by decide +kernel
theorem dX7_growsNow_59 : decode cX7_growsNow 59 = .ok (.iload_n 1, 1) := by decide +kernel
theorem dX7_growsNow_60 : decode cX7_growsNow 60 = .ok (.iconst 3, 1) := by decide +kernel
theorem dX7_growsNow_61 : decode cX7_growsNow 61 = .ok (.invokevirtual 165, 3) := by decide +kernel
theorem dX7_growsNow_64 : decode cX7_growsNow 64 = .ok (.ifCond .ne 9, 3) := by decide +kernel
theorem dX7_growsNow_67 : decode cX7_growsNow 67 = .ok (.iconst 4, 1) := by decide +kernel
theorem dX7_growsNow_68 : decode cX7_growsNow 68 = .ok (.iload_n 3, 1) := by decide +kernel
theorem dX7_growsNow_69 : decode cX7_growsNow 69 = .ok (.imul, 1) := by decide +kernel
theorem dX7_growsNow_70 : decode cX7_growsNow 70 = .ok (.goto 4, 3) := by decide +kernel
theorem dX7_growsNow_73 : decode cX7_growsNow 73 = .ok (.iload_n 3, 1) := by decide +kernel
theorem dX7_growsNow_74 : decode cX7_growsNow 74 = .ok (.ireturn, 1) := by decide +kernel
theorem dX7_growsNow_75 : decode cX7_growsNow 75 = .ok (.iconst 2, 1) := by decide +kernel
theorem dX7_growsNow_76 : decode cX7_growsNow 76 = .ok (.ireturn, 1) := by decide +kernel
theorem dX7_growsNow_77 : decode cX7_growsNow 77 = .ok (.iconst 2, 1) := by decide +kernel
theorem dX7_growsNow_78 : decode cX7_growsNow 78 = .ok (.aload_n 0, 1) := by decide +kernel
theorem dX7_growsNow_79 : decode cX7_growsNow 79 = .ok (.getfield 9, 3) := by decide +kernel
theorem dX7_growsNow_82 : decode cX7_growsNow 82 = .ok (.iconst 1, 1) := by decide +kernel
theorem dX7_growsNow_83 : decode cX7_growsNow 83 = .ok (.iaload, 1) := by decide +kernel
theorem dX7_growsNow_84 : decode cX7_growsNow 84 = .ok (.iadd, 1) := by decide +kernel
theorem dX7_growsNow_85 : decode cX7_growsNow 85 = .ok (.iconst 1, 1) := by decide +kernel
theorem dX7_growsNow_86 : decode cX7_growsNow 86 = .ok (.isub, 1) := by decide +kernel
theorem dX7_growsNow_87 : decode cX7_growsNow 87 = .ok (.aload_n 0, 1) := by decide +kernel
theorem dX7_growsNow_88 : decode cX7_growsNow 88 = .ok (.iload_n 1, 1) := by decide +kernel
theorem dX7_growsNow_89 : decode cX7_growsNow 89 = .ok (.invokevirtual 180, 3) := by decide +kernel
theorem dX7_growsNow_92 : decode cX7_growsNow 92 = .ok (.isub, 1) := by decide +kernel
theorem dX7_growsNow_93 : decode cX7_growsNow 93 = .ok (.ireturn, 1) := by decide +kernel
theorem dX7_growsNow_94 : decode cX7_growsNow 94 = .ok (.iconst 0, 1) := by decide +kernel
theorem dX7_growsNow_95 : decode cX7_growsNow 95 = .ok (.ireturn, 1) := by decide +kernel
theorem dX7_growsNow_96 : decode cX7_growsNow 96 = .ok (.iload_n 2, 1) := by decide +kernel
theorem dX7_growsNow_97 : decode cX7_growsNow 97 = .ok (.ineg, 1) := by decide +kernel
theorem dX7_growsNow_98 : decode cX7_growsNow 98 = .ok (.ireturn, 1) := by decide +kernel
theorem dX7_growsNow_99 : decode cX7_growsNow 99 = .ok (.iconst 1, 1) := by decide +kernel
theorem dX7_growsNow_100 : decode cX7_growsNow 100 = .ok (.ireturn, 1) := by decide +kernel
theorem dX7_ofGuest_0 : decode cX7_ofGuest 0 = .ok (.aload_n 0, 1) := by decide +kernel
theorem dX7_ofGuest_1 : decode cX7_ofGuest 1 = .ok (.iload_n 1, 1) := by decide +kernel
theorem dX7_ofGuest_2 : decode cX7_ofGuest 2 = .ok (.invokevirtual 159, 3) := by decide +kernel
theorem dX7_ofGuest_5 : decode cX7_ofGuest 5 = .ok (.ifCond .eq 13, 3) := by decide +kernel
theorem dX7_ofGuest_8 : decode cX7_ofGuest 8 = .ok (.iload_n 2, 1) := by decide +kernel
theorem dX7_ofGuest_9 : decode cX7_ofGuest 9 = .ok (.iconst 0, 1) := by decide +kernel
theorem dX7_ofGuest_10 : decode cX7_ofGuest 10 = .ok (.bipush 6, 2) := by decide +kernel
theorem dX7_ofGuest_12 : decode cX7_ofGuest 12 = .ok (.invokestatic 73, 3) := by decide +kernel
theorem dX7_ofGuest_15 : decode cX7_ofGuest 15 = .ok (.ifCond .ne 10, 3) := by decide +kernel
theorem dX7_ofGuest_18 : decode cX7_ofGuest 18 = .ok (.aload_n 0, 1) := by decide +kernel
theorem dX7_ofGuest_19 : decode cX7_ofGuest 19 = .ok (.ldc 77, 2) := by decide +kernel
theorem dX7_ofGuest_21 : decode cX7_ofGuest 21 = .ok (.invokevirtual 78, 3) := by decide +kernel
theorem dX7_ofGuest_24 : decode cX7_ofGuest 24 = .ok (.ireturn, 1) := by decide +kernel
theorem dX7_ofGuest_25 : decode cX7_ofGuest 25 = .ok (.iload_n 2, 1) := by decide +kernel
theorem dX7_ofGuest_26 : decode cX7_ofGuest 26 = .ok (.iconst 5, 1) := by decide +kernel
theorem dX7_ofGuest_27 : decode cX7_ofGuest 27 = .ok (.if_icmp .ge 12, 3) := by decide +kernel
theorem dX7_ofGuest_30 : decode cX7_ofGuest 30 = .ok (.aload_n 0, 1) := by decide +kernel
theorem dX7_ofGuest_31 : decode cX7_ofGuest 31 = .ok (.iload_n 1, 1) := by decide +kernel
theorem dX7_ofGuest_32 : decode cX7_ofGuest 32 = .ok (.iload_n 2, 1) := by decide +kernel
theorem dX7_ofGuest_33 : decode cX7_ofGuest 33 = .ok (.invokevirtual 165, 3) := by decide +kernel
theorem dX7_ofGuest_36 : decode cX7_ofGuest 36 = .ok (.goto 21, 3) := by decide +kernel
theorem dX7_ofGuest_39 : decode cX7_ofGuest 39 = .ok (.iload_n 2, 1) := by decide +kernel
theorem dX7_ofGuest_40 : decode cX7_ofGuest 40 = .ok (.iconst 5, 1) := by decide +kernel
theorem dX7_ofGuest_41 : decode cX7_ofGuest 41 = .ok (.if_icmp .ne 11, 3) := by decide +kernel
theorem dX7_ofGuest_44 : decode cX7_ofGuest 44 = .ok (.aload_n 0, 1) := by decide +kernel
theorem dX7_ofGuest_45 : decode cX7_ofGuest 45 = .ok (.iload_n 1, 1) := by decide +kernel
theorem dX7_ofGuest_46 : decode cX7_ofGuest 46 = .ok (.invokevirtual 180, 3) := by decide +kernel
theorem dX7_ofGuest_49 : decode cX7_ofGuest 49 = .ok (.goto 8, 3) := by decide +kernel
theorem dX7_ofGuest_52 : decode cX7_ofGuest 52 = .ok (.aload_n 0, 1) := by decide +kernel
theorem dX7_ofGuest_53 : decode cX7_ofGuest 53 = .ok (.iload_n 1, 1) := by decide +kernel
theorem dX7_ofGuest_54 : decode cX7_ofGuest 54 = .ok (.invokevirtual 183, 3) := by decide +kernel
theorem dX7_ofGuest_57 : decode cX7_ofGuest 57 = .ok (.ireturn, 1) := by decide +kernel
theorem dX7_change_0 : decode cX7_change 0 = .ok (.iload_n 2, 1) := by decide +kernel
theorem dX7_change_1 : decode cX7_change 1 = .ok (.ifCond .eq 8, 3) := by decide +kernel
theorem dX7_change_4 : decode cX7_change 4 = .ok (.iload_n 2, 1) := by decide +kernel
theorem dX7_change_5 : decode cX7_change 5 = .ok (.iconst 1, 1) := by decide +kernel
theorem dX7_change_6 : decode cX7_change 6 = .ok (.if_icmp .ne 10, 3) := by decide +kernel
theorem dX7_change_9 : decode cX7_change 9 = .ok (.iload_n 3, 1) := by decide +kernel
theorem dX7_change_10 : decode cX7_change 10 = .ok (.invokestatic 171, 3) := by decide +kernel
theorem dX7_change_13 : decode cX7_change 13 = .ok (.goto 22, 3) := by decide +kernel
theorem dX7_change_16 : decode cX7_change 16 = .ok (.iload_n 2, 1) := by decide +kernel
theorem dX7_change_17 : decode cX7_change 17 = .ok (.iconst 2, 1) := by decide +kernel
theorem dX7_change_18 : decode cX7_change 18 = .ok (.if_icmp .ne 16, 3) := by decide +kernel
theorem dX7_change_21 : decode cX7_change 21 = .ok (.iload_n 3, 1) := by decide +kernel
theorem dX7_change_22 : decode cX7_change 22 = .ok (.iconst 0, 1) := by decide +kernel
theorem dX7_change_23 : decode cX7_change 23 = .ok (.iconst 1, 1) := by decide +kernel
theorem dX7_change_24 : decode cX7_change 24 = .ok (.invokestatic 73, 3) := by decide +kernel
theorem dX7_change_27 : decode cX7_change 27 = .ok (.ifCond .eq 7, 3) := by decide +kernel
theorem dX7_change_30 : decode cX7_change 30 = .ok (.iconst 1, 1) := by decide +kernel
theorem dX7_change_31 : decode cX7_change 31 = .ok (.goto 4, 3) := by decide +kernel
theorem dX7_change_34 : decode cX7_change 34 = .ok (.iconst 0, 1) := by decide +kernel
theorem dX7_change_35 : decode cX7_change 35 = .ok (.istore 4, 2) := by decide +kernel
theorem dX7_change_37 : decode cX7_change 37 = .ok (.aload_n 0, 1) := by decide +kernel
theorem dX7_change_38 : decode cX7_change 38 = .ok (.iload_n 1, 1) := by decide +kernel
theorem dX7_change_39 : decode cX7_change 39 = .ok (.invokevirtual 159, 3) := by decide +kernel
theorem dX7_change_42 : decode cX7_change 42 = .ok (.ifCond .eq 23, 3) := by decide +kernel
theorem dX7_change_45 : decode cX7_change 45 = .ok (.iload 4, 2) := by decide +kernel
theorem dX7_change_47 : decode cX7_change 47 = .ok (.ifCond .eq 18, 3) := by decide +kernel
theorem dX7_change_50 : decode cX7_change 50 = .ok (.aload_n 0, 1) := by decide +kernel
theorem dX7_change_51 : decode cX7_change 51 = .ok (.iload_n 1, 1) := by decide +kernel
theorem dX7_change_52 : decode cX7_change 52 = .ok (.iconst 2, 1) := by decide +kernel
theorem dX7_change_53 : decode cX7_change 53 = .ok (.iload_n 2, 1) := by decide +kernel
theorem dX7_change_54 : decode cX7_change 54 = .ok (.iadd, 1) := by decide +kernel
theorem dX7_change_55 : decode cX7_change 55 = .ok (.invokestatic 162, 3) := by decide +kernel
theorem dX7_change_58 : decode cX7_change 58 = .ok (.iload_n 3, 1) := by decide +kernel
theorem dX7_change_59 : decode cX7_change 59 = .ok (.invokevirtual 186, 3) := by decide +kernel
theorem dX7_change_62 : decode cX7_change 62 = .ok (.goto 9, 3) := by decide +kernel
theorem dX7_change_65 : decode cX7_change 65 = .ok (.aload_n 0, 1) := by decide +kernel
theorem dX7_change_66 : decode cX7_change 66 = .ok (.ldc 77, 2) := by decide +kernel
theorem dX7_change_68 : decode cX7_change 68 = .ok (.invokevirtual 78, 3) := by decide +kernel
theorem dX7_change_71 : decode cX7_change 71 = .ok (.ireturn, 1) := by decide +kernel
theorem dX7_peg_0 : decode cX7_peg 0 = .ok (.aload_n 0, 1) := by decide +kernel
theorem dX7_peg_1 : decode cX7_peg 1 = .ok (.iload_n 1, 1) := by decide +kernel
theorem dX7_peg_2 : decode cX7_peg 2 = .ok (.invokevirtual 159, 3) := by decide +kernel
theorem dX7_peg_5 : decode cX7_peg 5 = .ok (.ifCond .eq 14, 3) := by decide +kernel
theorem dX7_peg_8 : decode cX7_peg 8 = .ok (.aload_n 0, 1) := by decide +kernel
theorem dX7_peg_9 : decode cX7_peg 9 = .ok (.getfield 9, 3) := by decide +kernel
theorem dX7_peg_12 : decode cX7_peg 12 = .ok (.iconst 5, 1) := by decide +kernel
theorem dX7_peg_13 : decode cX7_peg 13 = .ok (.iload_n 1, 1) := by decide +kernel
theorem dX7_peg_14 : decode cX7_peg 14 = .ok (.iadd, 1) := by decide +kernel
theorem dX7_peg_15 : decode cX7_peg 15 = .ok (.iaload, 1) := by decide +kernel
theorem dX7_peg_16 : decode cX7_peg 16 = .ok (.goto 9, 3) := by decide +kernel
theorem dX7_peg_19 : decode cX7_peg 19 = .ok (.aload_n 0, 1) := by decide +kernel
theorem dX7_peg_20 : decode cX7_peg 20 = .ok (.ldc 77, 2) := by decide +kernel
theorem dX7_peg_22 : decode cX7_peg 22 = .ok (.invokevirtual 78, 3) := by decide +kernel
theorem dX7_peg_25 : decode cX7_peg 25 = .ok (.ireturn, 1) := by decide +kernel
theorem dX7_hangs_0 : decode cX7_hangs 0 = .ok (.aload_n 0, 1) := by decide +kernel
theorem dX7_hangs_1 : decode cX7_hangs 1 = .ok (.iconst 5, 1) := by decide +kernel
theorem dX7_hangs_2 : decode cX7_hangs 2 = .ok (.iload_n 1, 1) := by decide +kernel
theorem dX7_hangs_3 : decode cX7_hangs 3 = .ok (.iadd, 1) := by decide +kernel
theorem dX7_hangs_4 : decode cX7_hangs 4 = .ok (.aload_n 0, 1) := by decide +kernel
theorem dX7_hangs_5 : decode cX7_hangs 5 = .ok (.getfield 9, 3) := by decide +kernel
theorem dX7_hangs_8 : decode cX7_hangs 8 = .ok (.iconst 5, 1) := by decide +kernel
theorem dX7_hangs_9 : decode cX7_hangs 9 = .ok (.iload_n 2, 1) := by decide +kernel
theorem dX7_hangs_10 : decode cX7_hangs 10 = .ok (.iadd, 1) := by decide +kernel
theorem dX7_hangs_11 : decode cX7_hangs 11 = .ok (.iaload, 1) := by decide +kernel
theorem dX7_hangs_12 : decode cX7_hangs 12 = .ok (.invokevirtual 186, 3) := by decide +kernel
theorem dX7_hangs_15 : decode cX7_hangs 15 = .ok (.istore_n 3, 1) := by decide +kernel
theorem dX7_hangs_16 : decode cX7_hangs 16 = .ok (.aload_n 0, 1) := by decide +kernel
theorem dX7_hangs_17 : decode cX7_hangs 17 = .ok (.getfield 9, 3) := by decide +kernel
theorem dX7_hangs_20 : decode cX7_hangs 20 = .ok (.iconst 5, 1) := by decide +kernel
theorem dX7_hangs_21 : decode cX7_hangs 21 = .ok (.iload_n 2, 1) := by decide +kernel
theorem dX7_hangs_22 : decode cX7_hangs 22 = .ok (.iadd, 1) := by decide +kernel
theorem dX7_hangs_23 : decode cX7_hangs 23 = .ok (.iload_n 3, 1) := by decide +kernel
theorem dX7_hangs_24 : decode cX7_hangs 24 = .ok (.iastore, 1) := by decide +kernel
theorem dX7_hangs_25 : decode cX7_hangs 25 = .ok (.aload_n 0, 1) := by decide +kernel
theorem dX7_hangs_26 : decode cX7_hangs 26 = .ok (.getfield 9, 3) := by decide +kernel
theorem dX7_hangs_29 : decode cX7_hangs 29 = .ok (.iconst 5, 1) := by decide +kernel
theorem dX7_hangs_30 : decode cX7_hangs 30 = .ok (.iload_n 1, 1) := by decide +kernel
theorem dX7_hangs_31 : decode cX7_hangs 31 = .ok (.iadd, 1) := by decide +kernel
theorem dX7_hangs_32 : decode cX7_hangs 32 = .ok (.iaload, 1) := by decide +kernel
theorem dX7_hangs_33 : decode cX7_hangs 33 = .ok (.ireturn, 1) := by decide +kernel
theorem dX7_hang_0 : decode cX7_hang 0 = .ok (.aload_n 0, 1) := by decide +kernel
theorem dX7_hang_1 : decode cX7_hang 1 = .ok (.iload_n 1, 1) := by decide +kernel
theorem dX7_hang_2 : decode cX7_hang 2 = .ok (.invokevirtual 159, 3) := by decide +kernel
theorem dX7_hang_5 : decode cX7_hang 5 = .ok (.ifCond .eq 20, 3) := by decide +kernel
theorem dX7_hang_8 : decode cX7_hang 8 = .ok (.aload_n 0, 1) := by decide +kernel
theorem dX7_hang_9 : decode cX7_hang 9 = .ok (.iload_n 2, 1) := by decide +kernel
theorem dX7_hang_10 : decode cX7_hang 10 = .ok (.invokevirtual 159, 3) := by decide +kernel
theorem dX7_hang_13 : decode cX7_hang 13 = .ok (.ifCond .eq 12, 3) := by decide +kernel
theorem dX7_hang_16 : decode cX7_hang 16 = .ok (.aload_n 0, 1) := by decide +kernel
theorem dX7_hang_17 : decode cX7_hang 17 = .ok (.iload_n 1, 1) := by decide +kernel
theorem dX7_hang_18 : decode cX7_hang 18 = .ok (.iload_n 2, 1) := by decide +kernel
theorem dX7_hang_19 : decode cX7_hang 19 = .ok (.invokevirtual 189, 3) := by decide +kernel
theorem dX7_hang_22 : decode cX7_hang 22 = .ok (.goto 9, 3) := by decide +kernel
theorem dX7_hang_25 : decode cX7_hang 25 = .ok (.aload_n 0, 1) := by decide +kernel
theorem dX7_hang_26 : decode cX7_hang 26 = .ok (.ldc 77, 2) := by decide +kernel
theorem dX7_hang_28 : decode cX7_hang 28 = .ok (.invokevirtual 78, 3) := by decide +kernel
theorem dX7_hang_31 : decode cX7_hang 31 = .ok (.ireturn, 1) := by decide +kernel
theorem dX7_become_0 : decode cX7_become 0 = .ok (.aload_n 0, 1) := by decide +kernel
theorem dX7_become_1 : decode cX7_become 1 = .ok (.iload_n 1, 1) := by decide +kernel
theorem dX7_become_2 : decode cX7_become 2 = .ok (.invokevirtual 159, 3) := by decide +kernel
theorem dX7_become_5 : decode cX7_become 5 = .ok (.ifCond .eq 10, 3) := by decide +kernel
theorem dX7_become_8 : decode cX7_become 8 = .ok (.iload_n 2, 1) := by decide +kernel
theorem dX7_become_9 : decode cX7_become 9 = .ok (.invokestatic 168, 3) := by decide +kernel
theorem dX7_become_12 : decode cX7_become 12 = .ok (.ifCond .ne 10, 3) := by decide +kernel
theorem dX7_become_15 : decode cX7_become 15 = .ok (.aload_n 0, 1) := by decide +kernel
theorem dX7_become_16 : decode cX7_become 16 = .ok (.ldc 77, 2) := by decide +kernel
theorem dX7_become_18 : decode cX7_become 18 = .ok (.invokevirtual 78, 3) := by decide +kernel
theorem dX7_become_21 : decode cX7_become 21 = .ok (.ireturn, 1) := by decide +kernel
theorem dX7_become_22 : decode cX7_become 22 = .ok (.aload_n 0, 1) := by decide +kernel
theorem dX7_become_23 : decode cX7_become 23 = .ok (.getfield 9, 3) := by decide +kernel
theorem dX7_become_26 : decode cX7_become 26 = .ok (.iload_n 1, 1) := by decide +kernel
theorem dX7_become_27 : decode cX7_become 27 = .ok (.iconst 1, 1) := by decide +kernel
theorem dX7_become_28 : decode cX7_become 28 = .ok (.invokestatic 162, 3) := by decide +kernel
theorem dX7_become_31 : decode cX7_become 31 = .ok (.iload_n 2, 1) := by decide +kernel
theorem dX7_become_32 : decode cX7_become 32 = .ok (.bipush 10, 2) := by decide +kernel
theorem dX7_become_34 : decode cX7_become 34 = .ok (.irem, 1) := by decide +kernel
theorem dX7_become_35 : decode cX7_become 35 = .ok (.iastore, 1) := by decide +kernel
theorem dX7_become_36 : decode cX7_become 36 = .ok (.aload_n 0, 1) := by decide +kernel
theorem dX7_become_37 : decode cX7_become 37 = .ok (.iload_n 1, 1) := by decide +kernel
theorem dX7_become_38 : decode cX7_become 38 = .ok (.iconst 0, 1) := by decide +kernel
theorem dX7_become_39 : decode cX7_become 39 = .ok (.invokestatic 162, 3) := by decide +kernel
theorem dX7_become_42 : decode cX7_become 42 = .ok (.iload_n 2, 1) := by decide +kernel
theorem dX7_become_43 : decode cX7_become 43 = .ok (.bipush 10, 2) := by decide +kernel
theorem dX7_become_45 : decode cX7_become 45 = .ok (.idiv, 1) := by decide +kernel
theorem dX7_become_46 : decode cX7_become 46 = .ok (.invokevirtual 186, 3) := by decide +kernel
theorem dX7_become_49 : decode cX7_become 49 = .ok (.ireturn, 1) := by decide +kernel
theorem dX7_as_0 : decode cX7_as 0 = .ok (.aload_n 0, 1) := by decide +kernel
theorem dX7_as_1 : decode cX7_as 1 = .ok (.iload_n 1, 1) := by decide +kernel
theorem dX7_as_2 : decode cX7_as 2 = .ok (.invokevirtual 159, 3) := by decide +kernel
theorem dX7_as_5 : decode cX7_as 5 = .ok (.ifCond .eq 13, 3) := by decide +kernel
theorem dX7_as_8 : decode cX7_as 8 = .ok (.iload_n 2, 1) := by decide +kernel
theorem dX7_as_9 : decode cX7_as 9 = .ok (.iconst 0, 1) := by decide +kernel
theorem dX7_as_10 : decode cX7_as 10 = .ok (.bipush 6, 2) := by decide +kernel
theorem dX7_as_12 : decode cX7_as 12 = .ok (.invokestatic 73, 3) := by decide +kernel
theorem dX7_as_15 : decode cX7_as 15 = .ok (.ifCond .ne 10, 3) := by decide +kernel
theorem dX7_as_18 : decode cX7_as 18 = .ok (.aload_n 0, 1) := by decide +kernel
theorem dX7_as_19 : decode cX7_as 19 = .ok (.ldc 77, 2) := by decide +kernel
theorem dX7_as_21 : decode cX7_as 21 = .ok (.invokevirtual 78, 3) := by decide +kernel
theorem dX7_as_24 : decode cX7_as 24 = .ok (.ireturn, 1) := by decide +kernel
theorem dX7_as_25 : decode cX7_as 25 = .ok (.aload_n 0, 1) := by decide +kernel
theorem dX7_as_26 : decode cX7_as 26 = .ok (.iload_n 1, 1) := by decide +kernel
theorem dX7_as_27 : decode cX7_as 27 = .ok (.iconst 0, 1) := by decide +kernel
theorem dX7_as_28 : decode cX7_as 28 = .ok (.invokevirtual 165, 3) := by decide +kernel
theorem dX7_as_31 : decode cX7_as 31 = .ok (.iload_n 2, 1) := by decide +kernel
theorem dX7_as_32 : decode cX7_as 32 = .ok (.invokestatic 192, 3) := by decide +kernel
theorem dX7_as_35 : decode cX7_as 35 = .ok (.ifCond .eq 12, 3) := by decide +kernel
theorem dX7_as_38 : decode cX7_as 38 = .ok (.aload_n 0, 1) := by decide +kernel
theorem dX7_as_39 : decode cX7_as 39 = .ok (.iload_n 1, 1) := by decide +kernel
theorem dX7_as_40 : decode cX7_as 40 = .ok (.iconst 1, 1) := by decide +kernel
theorem dX7_as_41 : decode cX7_as 41 = .ok (.invokevirtual 165, 3) := by decide +kernel
theorem dX7_as_44 : decode cX7_as 44 = .ok (.goto 9, 3) := by decide +kernel
theorem dX7_as_47 : decode cX7_as 47 = .ok (.aload_n 0, 1) := by decide +kernel
theorem dX7_as_48 : decode cX7_as 48 = .ok (.ldc 196, 2) := by decide +kernel
theorem dX7_as_50 : decode cX7_as 50 = .ok (.invokevirtual 78, 3) := by decide +kernel
theorem dX7_as_53 : decode cX7_as 53 = .ok (.ireturn, 1) := by decide +kernel
theorem dX7_hasDanced_0 : decode cX7_hasDanced 0 = .ok (.aload_n 0, 1) := by decide +kernel
theorem dX7_hasDanced_1 : decode cX7_hasDanced 1 = .ok (.getfield 9, 3) := by decide +kernel
theorem dX7_hasDanced_4 : decode cX7_hasDanced 4 = .ok (.iload_n 1, 1) := by decide +kernel
theorem dX7_hasDanced_5 : decode cX7_hasDanced 5 = .ok (.iconst 2, 1) := by decide +kernel
theorem dX7_hasDanced_6 : decode cX7_hasDanced 6 = .ok (.invokestatic 162, 3) := by decide +kernel
theorem dX7_hasDanced_9 : decode cX7_hasDanced 9 = .ok (.iload_n 2, 1) := by decide +kernel
theorem dX7_hasDanced_10 : decode cX7_hasDanced 10 = .ok (.iastore, 1) := by decide +kernel
theorem dX7_hasDanced_11 : decode cX7_hasDanced 11 = .ok (.aload_n 0, 1) := by decide +kernel
theorem dX7_hasDanced_12 : decode cX7_hasDanced 12 = .ok (.getfield 9, 3) := by decide +kernel
theorem dX7_hasDanced_15 : decode cX7_hasDanced 15 = .ok (.iload_n 1, 1) := by decide +kernel
theorem dX7_hasDanced_16 : decode cX7_hasDanced 16 = .ok (.iconst 3, 1) := by decide +kernel
theorem dX7_hasDanced_17 : decode cX7_hasDanced 17 = .ok (.invokestatic 162, 3) := by decide +kernel
theorem dX7_hasDanced_20 : decode cX7_hasDanced 20 = .ok (.sipush 999, 3) := by decide +kernel
theorem dX7_hasDanced_23 : decode cX7_hasDanced 23 = .ok (.aload_n 0, 1) := by decide +kernel
theorem dX7_hasDanced_24 : decode cX7_hasDanced 24 = .ok (.iload_n 1, 1) := by decide +kernel
theorem dX7_hasDanced_25 : decode cX7_hasDanced 25 = .ok (.iconst 3, 1) := by decide +kernel
theorem dX7_hasDanced_26 : decode cX7_hasDanced 26 = .ok (.invokevirtual 165, 3) := by decide +kernel
theorem dX7_hasDanced_29 : decode cX7_hasDanced 29 = .ok (.iconst 1, 1) := by decide +kernel
theorem dX7_hasDanced_30 : decode cX7_hasDanced 30 = .ok (.iadd, 1) := by decide +kernel
theorem dX7_hasDanced_31 : decode cX7_hasDanced 31 = .ok (.invokestatic 60, 3) := by decide +kernel
theorem dX7_hasDanced_34 : decode cX7_hasDanced 34 = .ok (.iastore, 1) := by decide +kernel
theorem dX7_hasDanced_35 : decode cX7_hasDanced 35 = .ok (.aload_n 0, 1) := by decide +kernel
theorem dX7_hasDanced_36 : decode cX7_hasDanced 36 = .ok (.getfield 9, 3) := by decide +kernel
theorem dX7_hasDanced_39 : decode cX7_hasDanced 39 = .ok (.iload_n 1, 1) := by decide +kernel
theorem dX7_hasDanced_40 : decode cX7_hasDanced 40 = .ok (.iconst 4, 1) := by decide +kernel
theorem dX7_hasDanced_41 : decode cX7_hasDanced 41 = .ok (.invokestatic 162, 3) := by decide +kernel
theorem dX7_hasDanced_44 : decode cX7_hasDanced 44 = .ok (.iconst 0, 1) := by decide +kernel
theorem dX7_hasDanced_45 : decode cX7_hasDanced 45 = .ok (.iastore, 1) := by decide +kernel
theorem dX7_hasDanced_46 : decode cX7_hasDanced 46 = .ok (.return_, 1) := by decide +kernel
theorem dX7_dancing_0 : decode cX7_dancing 0 = .ok (.aload_n 0, 1) := by decide +kernel
theorem dX7_dancing_1 : decode cX7_dancing 1 = .ok (.iconst 0, 1) := by decide +kernel
theorem dX7_dancing_2 : decode cX7_dancing 2 = .ok (.aload_n 0, 1) := by decide +kernel
theorem dX7_dancing_3 : decode cX7_dancing 3 = .ok (.iload_n 1, 1) := by decide +kernel
theorem dX7_dancing_4 : decode cX7_dancing 4 = .ok (.invokevirtual 197, 3) := by decide +kernel
theorem dX7_dancing_7 : decode cX7_dancing 7 = .ok (.aload_n 0, 1) := by decide +kernel
theorem dX7_dancing_8 : decode cX7_dancing 8 = .ok (.iload_n 2, 1) := by decide +kernel
theorem dX7_dancing_9 : decode cX7_dancing 9 = .ok (.invokevirtual 197, 3) := by decide +kernel
theorem dX7_dancing_12 : decode cX7_dancing 12 = .ok (.aload_n 0, 1) := by decide +kernel
theorem dX7_dancing_13 : decode cX7_dancing 13 = .ok (.iload_n 1, 1) := by decide +kernel
theorem dX7_dancing_14 : decode cX7_dancing 14 = .ok (.iconst 1, 1) := by decide +kernel
theorem dX7_dancing_15 : decode cX7_dancing 15 = .ok (.invokevirtual 165, 3) := by decide +kernel
theorem dX7_dancing_18 : decode cX7_dancing 18 = .ok (.invokevirtual 155, 3) := by decide +kernel
theorem dX7_dancing_21 : decode cX7_dancing 21 = .ok (.istore_n 3, 1) := by decide +kernel
theorem dX7_dancing_22 : decode cX7_dancing 22 = .ok (.aload_n 0, 1) := by decide +kernel
theorem dX7_dancing_23 : decode cX7_dancing 23 = .ok (.iconst 0, 1) := by decide +kernel
theorem dX7_dancing_24 : decode cX7_dancing 24 = .ok (.aload_n 0, 1) := by decide +kernel
theorem dX7_dancing_25 : decode cX7_dancing 25 = .ok (.iload_n 2, 1) := by decide +kernel
theorem dX7_dancing_26 : decode cX7_dancing 26 = .ok (.invokevirtual 197, 3) := by decide +kernel
theorem dX7_dancing_29 : decode cX7_dancing 29 = .ok (.aload_n 0, 1) := by decide +kernel
theorem dX7_dancing_30 : decode cX7_dancing 30 = .ok (.iload_n 1, 1) := by decide +kernel
theorem dX7_dancing_31 : decode cX7_dancing 31 = .ok (.invokevirtual 197, 3) := by decide +kernel
theorem dX7_dancing_34 : decode cX7_dancing 34 = .ok (.aload_n 0, 1) := by decide +kernel
theorem dX7_dancing_35 : decode cX7_dancing 35 = .ok (.iload_n 2, 1) := by decide +kernel
theorem dX7_dancing_36 : decode cX7_dancing 36 = .ok (.iconst 1, 1) := by decide +kernel
theorem dX7_dancing_37 : decode cX7_dancing 37 = .ok (.invokevirtual 165, 3) := by decide +kernel
theorem dX7_dancing_40 : decode cX7_dancing 40 = .ok (.invokevirtual 155, 3) := by decide +kernel
theorem dX7_dancing_43 : decode cX7_dancing 43 = .ok (.istore 4, 2) := by decide +kernel
theorem dX7_dancing_45 : decode cX7_dancing 45 = .ok (.aload_n 0, 1) := by decide +kernel
theorem dX7_dancing_46 : decode cX7_dancing 46 = .ok (.iload_n 1, 1) := by decide +kernel
theorem dX7_dancing_47 : decode cX7_dancing 47 = .ok (.iload_n 3, 1) := by decide +kernel
theorem dX7_dancing_48 : decode cX7_dancing 48 = .ok (.invokevirtual 200, 3) := by decide +kernel
theorem dX7_dancing_51 : decode cX7_dancing 51 = .ok (.aload_n 0, 1) := by decide +kernel
theorem dX7_dancing_52 : decode cX7_dancing 52 = .ok (.iload_n 2, 1) := by decide +kernel
theorem dX7_dancing_53 : decode cX7_dancing 53 = .ok (.iload 4, 2) := by decide +kernel
theorem dX7_dancing_55 : decode cX7_dancing 55 = .ok (.invokevirtual 200, 3) := by decide +kernel
theorem dX7_dancing_58 : decode cX7_dancing 58 = .ok (.return_, 1) := by decide +kernel
theorem dX7_dance_0 : decode cX7_dance 0 = .ok (.aload_n 0, 1) := by decide +kernel
theorem dX7_dance_1 : decode cX7_dance 1 = .ok (.iload_n 1, 1) := by decide +kernel
theorem dX7_dance_2 : decode cX7_dance 2 = .ok (.iload_n 2, 1) := by decide +kernel
theorem dX7_dance_3 : decode cX7_dance 3 = .ok (.invokevirtual 204, 3) := by decide +kernel
theorem dX7_dance_6 : decode cX7_dance 6 = .ok (.ifCond .ne 10, 3) := by decide +kernel
theorem dX7_dance_9 : decode cX7_dance 9 = .ok (.aload_n 0, 1) := by decide +kernel
theorem dX7_dance_10 : decode cX7_dance 10 = .ok (.ldc 77, 2) := by decide +kernel
theorem dX7_dance_12 : decode cX7_dance 12 = .ok (.invokevirtual 78, 3) := by decide +kernel
theorem dX7_dance_15 : decode cX7_dance 15 = .ok (.ireturn, 1) := by decide +kernel
theorem dX7_dance_16 : decode cX7_dance 16 = .ok (.aload_n 0, 1) := by decide +kernel
theorem dX7_dance_17 : decode cX7_dance 17 = .ok (.iload_n 1, 1) := by decide +kernel
theorem dX7_dance_18 : decode cX7_dance 18 = .ok (.iconst 4, 1) := by decide +kernel
theorem dX7_dance_19 : decode cX7_dance 19 = .ok (.invokevirtual 165, 3) := by decide +kernel
theorem dX7_dance_22 : decode cX7_dance 22 = .ok (.ifCond .eq 12, 3) := by decide +kernel
theorem dX7_dance_25 : decode cX7_dance 25 = .ok (.aload_n 0, 1) := by decide +kernel
theorem dX7_dance_26 : decode cX7_dance 26 = .ok (.iload_n 2, 1) := by decide +kernel
theorem dX7_dance_27 : decode cX7_dance 27 = .ok (.iconst 4, 1) := by decide +kernel
theorem dX7_dance_28 : decode cX7_dance 28 = .ok (.invokevirtual 165, 3) := by decide +kernel
theorem dX7_dance_31 : decode cX7_dance 31 = .ok (.ifCond .ne 10, 3) := by decide +kernel
theorem dX7_dance_34 : decode cX7_dance 34 = .ok (.aload_n 0, 1) := by decide +kernel
theorem dX7_dance_35 : decode cX7_dance 35 = .ok (.ldc 207, 2) := by decide +kernel
theorem dX7_dance_37 : decode cX7_dance 37 = .ok (.invokevirtual 78, 3) := by decide +kernel
theorem dX7_dance_40 : decode cX7_dance 40 = .ok (.ireturn, 1) := by decide +kernel
theorem dX7_dance_41 : decode cX7_dance 41 = .ok (.aload_n 0, 1) := by decide +kernel
theorem dX7_dance_42 : decode cX7_dance 42 = .ok (.iload_n 1, 1) := by decide +kernel
theorem dX7_dance_43 : decode cX7_dance 43 = .ok (.iload_n 2, 1) := by decide +kernel
theorem dX7_dance_44 : decode cX7_dance 44 = .ok (.invokevirtual 208, 3) := by decide +kernel
theorem dX7_dance_47 : decode cX7_dance 47 = .ok (.aload_n 0, 1) := by decide +kernel
theorem dX7_dance_48 : decode cX7_dance 48 = .ok (.iload_n 1, 1) := by decide +kernel
theorem dX7_dance_49 : decode cX7_dance 49 = .ok (.invokevirtual 197, 3) := by decide +kernel
theorem dX7_dance_52 : decode cX7_dance 52 = .ok (.ireturn, 1) := by decide +kernel
theorem dX7_isWrongAt_0 : decode cX7_isWrongAt 0 = .ok (.aload_n 0, 1) := by decide +kernel
theorem dX7_isWrongAt_1 : decode cX7_isWrongAt 1 = .ok (.aload_n 0, 1) := by decide +kernel
theorem dX7_isWrongAt_2 : decode cX7_isWrongAt 2 = .ok (.getfield 9, 3) := by decide +kernel
theorem dX7_isWrongAt_5 : decode cX7_isWrongAt 5 = .ok (.iconst 5, 1) := by decide +kernel
theorem dX7_isWrongAt_6 : decode cX7_isWrongAt 6 = .ok (.iload_n 1, 1) := by decide +kernel
theorem dX7_isWrongAt_7 : decode cX7_isWrongAt 7 = .ok (.iadd, 1) := by decide +kernel
theorem dX7_isWrongAt_8 : decode cX7_isWrongAt 8 = .ok (.iaload, 1) := by decide +kernel
theorem dX7_isWrongAt_9 : decode cX7_isWrongAt 9 = .ok (.invokevirtual 197, 3) := by decide +kernel
theorem dX7_isWrongAt_12 : decode cX7_isWrongAt 12 = .ok (.aload_n 0, 1) := by decide +kernel
theorem dX7_isWrongAt_13 : decode cX7_isWrongAt 13 = .ok (.aload_n 0, 1) := by decide +kernel
theorem dX7_isWrongAt_14 : decode cX7_isWrongAt 14 = .ok (.getfield 9, 3) := by decide +kernel
theorem dX7_isWrongAt_17 : decode cX7_isWrongAt 17 = .ok (.iconst 5, 1) := by decide +kernel
theorem dX7_isWrongAt_18 : decode cX7_isWrongAt 18 = .ok (.iload_n 1, 1) := by decide +kernel
theorem dX7_isWrongAt_19 : decode cX7_isWrongAt 19 = .ok (.iadd, 1) := by decide +kernel
theorem dX7_isWrongAt_20 : decode cX7_isWrongAt 20 = .ok (.iconst 1, 1) := by decide +kernel
theorem dX7_isWrongAt_21 : decode cX7_isWrongAt 21 = .ok (.iadd, 1) := by decide +kernel
theorem dX7_isWrongAt_22 : decode cX7_isWrongAt 22 = .ok (.iaload, 1) := by decide +kernel
theorem dX7_isWrongAt_23 : decode cX7_isWrongAt 23 = .ok (.invokevirtual 197, 3) := by decide +kernel
theorem dX7_isWrongAt_26 : decode cX7_isWrongAt 26 = .ok (.if_icmp .le 7, 3) := by decide +kernel
theorem dX7_isWrongAt_29 : decode cX7_isWrongAt 29 = .ok (.iconst 1, 1) := by decide +kernel
theorem dX7_isWrongAt_30 : decode cX7_isWrongAt 30 = .ok (.goto 4, 3) := by decide +kernel
theorem dX7_isWrongAt_33 : decode cX7_isWrongAt 33 = .ok (.iconst 0, 1) := by decide +kernel
theorem dX7_isWrongAt_34 : decode cX7_isWrongAt 34 = .ok (.ireturn, 1) := by decide +kernel
theorem dX7_hour_0 : decode cX7_hour 0 = .ok (.iconst 0, 1) := by decide +kernel
theorem dX7_hour_1 : decode cX7_hour 1 = .ok (.istore_n 1, 1) := by decide +kernel
theorem dX7_hour_2 : decode cX7_hour 2 = .ok (.iload_n 1, 1) := by decide +kernel
theorem dX7_hour_3 : decode cX7_hour 3 = .ok (.aload_n 0, 1) := by decide +kernel
theorem dX7_hour_4 : decode cX7_hour 4 = .ok (.getfield 9, 3) := by decide +kernel
theorem dX7_hour_7 : decode cX7_hour 7 = .ok (.iconst 1, 1) := by decide +kernel
theorem dX7_hour_8 : decode cX7_hour 8 = .ok (.iaload, 1) := by decide +kernel
theorem dX7_hour_9 : decode cX7_hour 9 = .ok (.if_icmp .ge 34, 3) := by decide +kernel
theorem dX7_hour_12 : decode cX7_hour 12 = .ok (.aload_n 0, 1) := by decide +kernel
theorem dX7_hour_13 : decode cX7_hour 13 = .ok (.getfield 22, 3) := by decide +kernel
theorem dX7_hour_16 : decode cX7_hour 16 = .ok (.iload_n 1, 1) := by decide +kernel
theorem dX7_hour_17 : decode cX7_hour 17 = .ok (.aload_n 0, 1) := by decide +kernel
theorem dX7_hour_18 : decode cX7_hour 18 = .ok (.iload_n 1, 1) := by decide +kernel
theorem dX7_hour_19 : decode cX7_hour 19 = .ok (.iconst 4, 1) := by decide +kernel
theorem dX7_hour_20 : decode cX7_hour 20 = .ok (.invokevirtual 165, 3) := by decide +kernel
theorem dX7_hour_23 : decode cX7_hour 23 = .ok (.iconst 1, 1) := by decide +kernel
theorem dX7_hour_24 : decode cX7_hour 24 = .ok (.if_icmp .ne 11, 3) := by decide +kernel
theorem dX7_hour_27 : decode cX7_hour 27 = .ok (.aload_n 0, 1) := by decide +kernel
theorem dX7_hour_28 : decode cX7_hour 28 = .ok (.iload_n 1, 1) := by decide +kernel
theorem dX7_hour_29 : decode cX7_hour 29 = .ok (.invokevirtual 183, 3) := by decide +kernel
theorem dX7_hour_32 : decode cX7_hour 32 = .ok (.goto 4, 3) := by decide +kernel
theorem dX7_hour_35 : decode cX7_hour 35 = .ok (.iconst 0, 1) := by decide +kernel
theorem dX7_hour_36 : decode cX7_hour 36 = .ok (.iastore, 1) := by decide +kernel
theorem dX7_hour_37 : decode cX7_hour 37 = .ok (.iinc 1 1, 3) := by decide +kernel
theorem dX7_hour_40 : decode cX7_hour 40 = .ok (.goto (-38), 3) := by decide +kernel
theorem dX7_hour_43 : decode cX7_hour 43 = .ok (.iconst 0, 1) := by decide +kernel
theorem dX7_hour_44 : decode cX7_hour 44 = .ok (.istore_n 1, 1) := by decide +kernel
theorem dX7_hour_45 : decode cX7_hour 45 = .ok (.iload_n 1, 1) := by decide +kernel
theorem dX7_hour_46 : decode cX7_hour 46 = .ok (.aload_n 0, 1) := by decide +kernel
theorem dX7_hour_47 : decode cX7_hour 47 = .ok (.getfield 9, 3) := by decide +kernel
theorem dX7_hour_50 : decode cX7_hour 50 = .ok (.iconst 1, 1) := by decide +kernel
theorem dX7_hour_51 : decode cX7_hour 51 = .ok (.iaload, 1) := by decide +kernel
theorem dX7_hour_52 : decode cX7_hour 52 = .ok (.if_icmp .ge 49, 3) := by decide +kernel
theorem dX7_hour_55 : decode cX7_hour 55 = .ok (.aload_n 0, 1) := by decide +kernel
theorem dX7_hour_56 : decode cX7_hour 56 = .ok (.getfield 9, 3) := by decide +kernel
theorem dX7_hour_59 : decode cX7_hour 59 = .ok (.iload_n 1, 1) := by decide +kernel
theorem dX7_hour_60 : decode cX7_hour 60 = .ok (.iconst 2, 1) := by decide +kernel
theorem dX7_hour_61 : decode cX7_hour 61 = .ok (.invokestatic 162, 3) := by decide +kernel
theorem dX7_hour_64 : decode cX7_hour 64 = .ok (.aload_n 0, 1) := by decide +kernel
theorem dX7_hour_65 : decode cX7_hour 65 = .ok (.iload_n 1, 1) := by decide +kernel
theorem dX7_hour_66 : decode cX7_hour 66 = .ok (.invokevirtual 197, 3) := by decide +kernel
theorem dX7_hour_69 : decode cX7_hour 69 = .ok (.aload_n 0, 1) := by decide +kernel
theorem dX7_hour_70 : decode cX7_hour 70 = .ok (.getfield 22, 3) := by decide +kernel
theorem dX7_hour_73 : decode cX7_hour 73 = .ok (.iload_n 1, 1) := by decide +kernel
theorem dX7_hour_74 : decode cX7_hour 74 = .ok (.iaload, 1) := by decide +kernel
theorem dX7_hour_75 : decode cX7_hour 75 = .ok (.iadd, 1) := by decide +kernel
theorem dX7_hour_76 : decode cX7_hour 76 = .ok (.iconst 0, 1) := by decide +kernel
theorem dX7_hour_77 : decode cX7_hour 77 = .ok (.sipush 999, 3) := by decide +kernel
theorem dX7_hour_80 : decode cX7_hour 80 = .ok (.invokestatic 152, 3) := by decide +kernel
theorem dX7_hour_83 : decode cX7_hour 83 = .ok (.iastore, 1) := by decide +kernel
theorem dX7_hour_84 : decode cX7_hour 84 = .ok (.aload_n 0, 1) := by decide +kernel
theorem dX7_hour_85 : decode cX7_hour 85 = .ok (.getfield 9, 3) := by decide +kernel
theorem dX7_hour_88 : decode cX7_hour 88 = .ok (.iload_n 1, 1) := by decide +kernel
theorem dX7_hour_89 : decode cX7_hour 89 = .ok (.iconst 4, 1) := by decide +kernel
theorem dX7_hour_90 : decode cX7_hour 90 = .ok (.invokestatic 162, 3) := by decide +kernel
theorem dX7_hour_93 : decode cX7_hour 93 = .ok (.iconst 1, 1) := by decide +kernel
theorem dX7_hour_94 : decode cX7_hour 94 = .ok (.iastore, 1) := by decide +kernel
theorem dX7_hour_95 : decode cX7_hour 95 = .ok (.iinc 1 1, 3) := by decide +kernel
theorem dX7_hour_98 : decode cX7_hour 98 = .ok (.goto (-53), 3) := by decide +kernel
theorem dX7_hour_101 : decode cX7_hour 101 = .ok (.iconst 0, 1) := by decide +kernel
theorem dX7_hour_102 : decode cX7_hour 102 = .ok (.istore_n 1, 1) := by decide +kernel
theorem dX7_hour_103 : decode cX7_hour 103 = .ok (.iload_n 1, 1) := by decide +kernel
theorem dX7_hour_104 : decode cX7_hour 104 = .ok (.iconst 1, 1) := by decide +kernel
theorem dX7_hour_105 : decode cX7_hour 105 = .ok (.iadd, 1) := by decide +kernel
theorem dX7_hour_106 : decode cX7_hour 106 = .ok (.aload_n 0, 1) := by decide +kernel
theorem dX7_hour_107 : decode cX7_hour 107 = .ok (.getfield 9, 3) := by decide +kernel
theorem dX7_hour_110 : decode cX7_hour 110 = .ok (.iconst 1, 1) := by decide +kernel
theorem dX7_hour_111 : decode cX7_hour 111 = .ok (.iaload, 1) := by decide +kernel
theorem dX7_hour_112 : decode cX7_hour 112 = .ok (.if_icmp .ge 70, 3) := by decide +kernel
theorem dX7_hour_115 : decode cX7_hour 115 = .ok (.aload_n 0, 1) := by decide +kernel
theorem dX7_hour_116 : decode cX7_hour 116 = .ok (.getfield 9, 3) := by decide +kernel
theorem dX7_hour_119 : decode cX7_hour 119 = .ok (.iconst 5, 1) := by decide +kernel
theorem dX7_hour_120 : decode cX7_hour 120 = .ok (.iload_n 1, 1) := by decide +kernel
theorem dX7_hour_121 : decode cX7_hour 121 = .ok (.iadd, 1) := by decide +kernel
theorem dX7_hour_122 : decode cX7_hour 122 = .ok (.iaload, 1) := by decide +kernel
theorem dX7_hour_123 : decode cX7_hour 123 = .ok (.istore_n 2, 1) := by decide +kernel
theorem dX7_hour_124 : decode cX7_hour 124 = .ok (.aload_n 0, 1) := by decide +kernel
theorem dX7_hour_125 : decode cX7_hour 125 = .ok (.iload_n 1, 1) := by decide +kernel
theorem dX7_hour_126 : decode cX7_hour 126 = .ok (.invokevirtual 211, 3) := by decide +kernel
theorem dX7_hour_129 : decode cX7_hour 129 = .ok (.ifCond .eq 47, 3) := by decide +kernel
theorem dX7_hour_132 : decode cX7_hour 132 = .ok (.aload_n 0, 1) := by decide +kernel
theorem dX7_hour_133 : decode cX7_hour 133 = .ok (.iconst 1, 1) := by decide +kernel
theorem dX7_hour_134 : decode cX7_hour 134 = .ok (.aload_n 0, 1) := by decide +kernel
theorem dX7_hour_135 : decode cX7_hour 135 = .ok (.iload_n 2, 1) := by decide +kernel
theorem dX7_hour_136 : decode cX7_hour 136 = .ok (.invokevirtual 197, 3) := by decide +kernel
theorem dX7_hour_139 : decode cX7_hour 139 = .ok (.aload_n 0, 1) := by decide +kernel
theorem dX7_hour_140 : decode cX7_hour 140 = .ok (.aload_n 0, 1) := by decide +kernel
theorem dX7_hour_141 : decode cX7_hour 141 = .ok (.getfield 9, 3) := by decide +kernel
theorem dX7_hour_144 : decode cX7_hour 144 = .ok (.iconst 5, 1) := by decide +kernel
theorem dX7_hour_145 : decode cX7_hour 145 = .ok (.iload_n 1, 1) := by decide +kernel
theorem dX7_hour_146 : decode cX7_hour 146 = .ok (.iadd, 1) := by decide +kernel
theorem dX7_hour_147 : decode cX7_hour 147 = .ok (.iconst 1, 1) := by decide +kernel
theorem dX7_hour_148 : decode cX7_hour 148 = .ok (.iadd, 1) := by decide +kernel
theorem dX7_hour_149 : decode cX7_hour 149 = .ok (.iaload, 1) := by decide +kernel
theorem dX7_hour_150 : decode cX7_hour 150 = .ok (.invokevirtual 197, 3) := by decide +kernel
theorem dX7_hour_153 : decode cX7_hour 153 = .ok (.isub, 1) := by decide +kernel
theorem dX7_hour_154 : decode cX7_hour 154 = .ok (.aload_n 0, 1) := by decide +kernel
theorem dX7_hour_155 : decode cX7_hour 155 = .ok (.iload_n 2, 1) := by decide +kernel
theorem dX7_hour_156 : decode cX7_hour 156 = .ok (.iconst 1, 1) := by decide +kernel
theorem dX7_hour_157 : decode cX7_hour 157 = .ok (.invokevirtual 165, 3) := by decide +kernel
theorem dX7_hour_160 : decode cX7_hour 160 = .ok (.iload_n 1, 1) := by decide +kernel
theorem dX7_hour_161 : decode cX7_hour 161 = .ok (.invokevirtual 155, 3) := by decide +kernel
theorem dX7_hour_164 : decode cX7_hour 164 = .ok (.ifCond .eq 12, 3) := by decide +kernel
theorem dX7_hour_167 : decode cX7_hour 167 = .ok (.aload_n 0, 1) := by decide +kernel
theorem dX7_hour_168 : decode cX7_hour 168 = .ok (.iload_n 1, 1) := by decide +kernel
theorem dX7_hour_169 : decode cX7_hour 169 = .ok (.iload_n 1, 1) := by decide +kernel
theorem dX7_hour_170 : decode cX7_hour 170 = .ok (.iconst 1, 1) := by decide +kernel
theorem dX7_hour_171 : decode cX7_hour 171 = .ok (.iadd, 1) := by decide +kernel
theorem dX7_hour_172 : decode cX7_hour 172 = .ok (.invokevirtual 189, 3) := by decide +kernel
theorem dX7_hour_175 : decode cX7_hour 175 = .ok (.istore_n 3, 1) := by decide +kernel
theorem dX7_hour_176 : decode cX7_hour 176 = .ok (.iinc 1 1, 3) := by decide +kernel
theorem dX7_hour_179 : decode cX7_hour 179 = .ok (.goto (-76), 3) := by decide +kernel
theorem dX7_hour_182 : decode cX7_hour 182 = .ok (.aload_n 0, 1) := by decide +kernel
theorem dX7_hour_183 : decode cX7_hour 183 = .ok (.getfield 9, 3) := by decide +kernel
theorem dX7_hour_186 : decode cX7_hour 186 = .ok (.iconst 0, 1) := by decide +kernel
theorem dX7_hour_187 : decode cX7_hour 187 = .ok (.dup2, 1) := by decide +kernel
theorem dX7_hour_188 : decode cX7_hour 188 = .ok (.iaload, 1) := by decide +kernel
theorem dX7_hour_189 : decode cX7_hour 189 = .ok (.iconst 1, 1) := by decide +kernel
theorem dX7_hour_190 : decode cX7_hour 190 = .ok (.iadd, 1) := by decide +kernel
theorem dX7_hour_191 : decode cX7_hour 191 = .ok (.iastore, 1) := by decide +kernel
theorem dX7_hour_192 : decode cX7_hour 192 = .ok (.return_, 1) := by decide +kernel
theorem dX7_hoursGo_0 : decode cX7_hoursGo 0 = .ok (.iconst 0, 1) := by decide +kernel
theorem dX7_hoursGo_1 : decode cX7_hoursGo 1 = .ok (.istore_n 2, 1) := by decide +kernel
theorem dX7_hoursGo_2 : decode cX7_hoursGo 2 = .ok (.iload_n 2, 1) := by decide +kernel
theorem dX7_hoursGo_3 : decode cX7_hoursGo 3 = .ok (.iload_n 1, 1) := by decide +kernel
theorem dX7_hoursGo_4 : decode cX7_hoursGo 4 = .ok (.if_icmp .ge 13, 3) := by decide +kernel
theorem dX7_hoursGo_7 : decode cX7_hoursGo 7 = .ok (.aload_n 0, 1) := by decide +kernel
theorem dX7_hoursGo_8 : decode cX7_hoursGo 8 = .ok (.invokevirtual 214, 3) := by decide +kernel
theorem dX7_hoursGo_11 : decode cX7_hoursGo 11 = .ok (.iinc 2 1, 3) := by decide +kernel
theorem dX7_hoursGo_14 : decode cX7_hoursGo 14 = .ok (.goto (-12), 3) := by decide +kernel
theorem dX7_hoursGo_17 : decode cX7_hoursGo 17 = .ok (.return_, 1) := by decide +kernel
theorem dX7_sumOf_0 : decode cX7_sumOf 0 = .ok (.iconst 0, 1) := by decide +kernel
theorem dX7_sumOf_1 : decode cX7_sumOf 1 = .ok (.istore_n 2, 1) := by decide +kernel
theorem dX7_sumOf_2 : decode cX7_sumOf 2 = .ok (.iconst 0, 1) := by decide +kernel
theorem dX7_sumOf_3 : decode cX7_sumOf 3 = .ok (.istore_n 3, 1) := by decide +kernel
theorem dX7_sumOf_4 : decode cX7_sumOf 4 = .ok (.iload_n 3, 1) := by decide +kernel
theorem dX7_sumOf_5 : decode cX7_sumOf 5 = .ok (.aload_n 0, 1) := by decide +kernel
theorem dX7_sumOf_6 : decode cX7_sumOf 6 = .ok (.getfield 9, 3) := by decide +kernel
theorem dX7_sumOf_9 : decode cX7_sumOf 9 = .ok (.iconst 1, 1) := by decide +kernel
theorem dX7_sumOf_10 : decode cX7_sumOf 10 = .ok (.iaload, 1) := by decide +kernel
theorem dX7_sumOf_11 : decode cX7_sumOf 11 = .ok (.if_icmp .ge 18, 3) := by decide +kernel
theorem dX7_sumOf_14 : decode cX7_sumOf 14 = .ok (.iload_n 2, 1) := by decide +kernel
theorem dX7_sumOf_15 : decode cX7_sumOf 15 = .ok (.aload_n 0, 1) := by decide +kernel
theorem dX7_sumOf_16 : decode cX7_sumOf 16 = .ok (.iload_n 3, 1) := by decide +kernel
theorem dX7_sumOf_17 : decode cX7_sumOf 17 = .ok (.iload_n 1, 1) := by decide +kernel
theorem dX7_sumOf_18 : decode cX7_sumOf 18 = .ok (.invokevirtual 165, 3) := by decide +kernel
theorem dX7_sumOf_21 : decode cX7_sumOf 21 = .ok (.iadd, 1) := by decide +kernel
theorem dX7_sumOf_22 : decode cX7_sumOf 22 = .ok (.istore_n 2, 1) := by decide +kernel
theorem dX7_sumOf_23 : decode cX7_sumOf 23 = .ok (.iinc 3 1, 3) := by decide +kernel
theorem dX7_sumOf_26 : decode cX7_sumOf 26 = .ok (.goto (-22), 3) := by decide +kernel
theorem dX7_sumOf_29 : decode cX7_sumOf 29 = .ok (.iload_n 2, 1) := by decide +kernel
theorem dX7_sumOf_30 : decode cX7_sumOf 30 = .ok (.ireturn, 1) := by decide +kernel
theorem dX7_hours_0 : decode cX7_hours 0 = .ok (.iload_n 1, 1) := by decide +kernel
theorem dX7_hours_1 : decode cX7_hours 1 = .ok (.iconst 1, 1) := by decide +kernel
theorem dX7_hours_2 : decode cX7_hours 2 = .ok (.bipush 60, 2) := by decide +kernel
theorem dX7_hours_4 : decode cX7_hours 4 = .ok (.invokestatic 73, 3) := by decide +kernel
theorem dX7_hours_7 : decode cX7_hours 7 = .ok (.ifCond .ne 10, 3) := by decide +kernel
theorem dX7_hours_10 : decode cX7_hours 10 = .ok (.aload_n 0, 1) := by decide +kernel
theorem dX7_hours_11 : decode cX7_hours 11 = .ok (.ldc 77, 2) := by decide +kernel
theorem dX7_hours_13 : decode cX7_hours 13 = .ok (.invokevirtual 78, 3) := by decide +kernel
theorem dX7_hours_16 : decode cX7_hours 16 = .ok (.ireturn, 1) := by decide +kernel
theorem dX7_hours_17 : decode cX7_hours 17 = .ok (.aload_n 0, 1) := by decide +kernel
theorem dX7_hours_18 : decode cX7_hours 18 = .ok (.getfield 9, 3) := by decide +kernel
theorem dX7_hours_21 : decode cX7_hours 21 = .ok (.iconst 0, 1) := by decide +kernel
theorem dX7_hours_22 : decode cX7_hours 22 = .ok (.iaload, 1) := by decide +kernel
theorem dX7_hours_23 : decode cX7_hours 23 = .ok (.iload_n 1, 1) := by decide +kernel
theorem dX7_hours_24 : decode cX7_hours 24 = .ok (.iadd, 1) := by decide +kernel
theorem dX7_hours_25 : decode cX7_hours 25 = .ok (.sipush 9999, 3) := by decide +kernel
theorem dX7_hours_28 : decode cX7_hours 28 = .ok (.if_icmp .le 10, 3) := by decide +kernel
theorem dX7_hours_31 : decode cX7_hours 31 = .ok (.aload_n 0, 1) := by decide +kernel
theorem dX7_hours_32 : decode cX7_hours 32 = .ok (.ldc 207, 2) := by decide +kernel
theorem dX7_hours_34 : decode cX7_hours 34 = .ok (.invokevirtual 78, 3) := by decide +kernel
theorem dX7_hours_37 : decode cX7_hours 37 = .ok (.ireturn, 1) := by decide +kernel
theorem dX7_hours_38 : decode cX7_hours 38 = .ok (.aload_n 0, 1) := by decide +kernel
theorem dX7_hours_39 : decode cX7_hours 39 = .ok (.iload_n 1, 1) := by decide +kernel
theorem dX7_hours_40 : decode cX7_hours 40 = .ok (.invokevirtual 217, 3) := by decide +kernel
theorem dX7_hours_43 : decode cX7_hours 43 = .ok (.aload_n 0, 1) := by decide +kernel
theorem dX7_hours_44 : decode cX7_hours 44 = .ok (.iconst 2, 1) := by decide +kernel
theorem dX7_hours_45 : decode cX7_hours 45 = .ok (.invokevirtual 220, 3) := by decide +kernel
theorem dX7_hours_48 : decode cX7_hours 48 = .ok (.ireturn, 1) := by decide +kernel
theorem dX7_drawn_0 : decode cX7_drawn 0 = .ok (.aload_n 0, 1) := by decide +kernel
theorem dX7_drawn_1 : decode cX7_drawn 1 = .ok (.getfield 9, 3) := by decide +kernel
theorem dX7_drawn_4 : decode cX7_drawn 4 = .ok (.iconst 2, 1) := by decide +kernel
theorem dX7_drawn_5 : decode cX7_drawn 5 = .ok (.aload_n 0, 1) := by decide +kernel
theorem dX7_drawn_6 : decode cX7_drawn 6 = .ok (.getfield 9, 3) := by decide +kernel
theorem dX7_drawn_9 : decode cX7_drawn 9 = .ok (.iconst 2, 1) := by decide +kernel
theorem dX7_drawn_10 : decode cX7_drawn 10 = .ok (.iaload, 1) := by decide +kernel
theorem dX7_drawn_11 : decode cX7_drawn 11 = .ok (.ldc 223, 2) := by decide +kernel
theorem dX7_drawn_13 : decode cX7_drawn 13 = .ok (.imul, 1) := by decide +kernel
theorem dX7_drawn_14 : decode cX7_drawn 14 = .ok (.sipush 12345, 3) := by decide +kernel
theorem dX7_drawn_17 : decode cX7_drawn 17 = .ok (.iadd, 1) := by decide +kernel
theorem dX7_drawn_18 : decode cX7_drawn 18 = .ok (.iastore, 1) := by decide +kernel
theorem dX7_drawn_19 : decode cX7_drawn 19 = .ok (.aload_n 0, 1) := by decide +kernel
theorem dX7_drawn_20 : decode cX7_drawn 20 = .ok (.getfield 9, 3) := by decide +kernel
theorem dX7_drawn_23 : decode cX7_drawn 23 = .ok (.iconst 2, 1) := by decide +kernel
theorem dX7_drawn_24 : decode cX7_drawn 24 = .ok (.iaload, 1) := by decide +kernel
theorem dX7_drawn_25 : decode cX7_drawn 25 = .ok (.bipush 8, 2) := by decide +kernel
theorem dX7_drawn_27 : decode cX7_drawn 27 = .ok (.iushr, 1) := by decide +kernel
theorem dX7_drawn_28 : decode cX7_drawn 28 = .ok (.ireturn, 1) := by decide +kernel
theorem dX7_dancesByDraws_0 : decode cX7_dancesByDraws 0 = .ok (.aload_n 0, 1) := by decide +kernel
theorem dX7_dancesByDraws_1 : decode cX7_dancesByDraws 1 = .ok (.invokevirtual 224, 3) := by decide +kernel
theorem dX7_dancesByDraws_4 : decode cX7_dancesByDraws 4 = .ok (.aload_n 0, 1) := by decide +kernel
theorem dX7_dancesByDraws_5 : decode cX7_dancesByDraws 5 = .ok (.getfield 9, 3) := by decide +kernel
theorem dX7_dancesByDraws_8 : decode cX7_dancesByDraws 8 = .ok (.iconst 1, 1) := by decide +kernel
theorem dX7_dancesByDraws_9 : decode cX7_dancesByDraws 9 = .ok (.iaload, 1) := by decide +kernel
theorem dX7_dancesByDraws_10 : decode cX7_dancesByDraws 10 = .ok (.irem, 1) := by decide +kernel
theorem dX7_dancesByDraws_11 : decode cX7_dancesByDraws 11 = .ok (.istore_n 1, 1) := by decide +kernel
theorem dX7_dancesByDraws_12 : decode cX7_dancesByDraws 12 = .ok (.aload_n 0, 1) := by decide +kernel
theorem dX7_dancesByDraws_13 : decode cX7_dancesByDraws 13 = .ok (.invokevirtual 224, 3) := by decide +kernel
theorem dX7_dancesByDraws_16 : decode cX7_dancesByDraws 16 = .ok (.aload_n 0, 1) := by decide +kernel
theorem dX7_dancesByDraws_17 : decode cX7_dancesByDraws 17 = .ok (.getfield 9, 3) := by decide +kernel
theorem dX7_dancesByDraws_20 : decode cX7_dancesByDraws 20 = .ok (.iconst 1, 1) := by decide +kernel
theorem dX7_dancesByDraws_21 : decode cX7_dancesByDraws 21 = .ok (.iaload, 1) := by decide +kernel
theorem dX7_dancesByDraws_22 : decode cX7_dancesByDraws 22 = .ok (.irem, 1) := by decide +kernel
theorem dX7_dancesByDraws_23 : decode cX7_dancesByDraws 23 = .ok (.istore_n 2, 1) := by decide +kernel
theorem dX7_dancesByDraws_24 : decode cX7_dancesByDraws 24 = .ok (.iload_n 1, 1) := by decide +kernel
theorem dX7_dancesByDraws_25 : decode cX7_dancesByDraws 25 = .ok (.iload_n 2, 1) := by decide +kernel
theorem dX7_dancesByDraws_26 : decode cX7_dancesByDraws 26 = .ok (.if_icmp .eq 9, 3) := by decide +kernel
theorem dX7_dancesByDraws_29 : decode cX7_dancesByDraws 29 = .ok (.aload_n 0, 1) := by decide +kernel
theorem dX7_dancesByDraws_30 : decode cX7_dancesByDraws 30 = .ok (.iload_n 1, 1) := by decide +kernel
theorem dX7_dancesByDraws_31 : decode cX7_dancesByDraws 31 = .ok (.iload_n 2, 1) := by decide +kernel
theorem dX7_dancesByDraws_32 : decode cX7_dancesByDraws 32 = .ok (.invokevirtual 208, 3) := by decide +kernel
theorem dX7_dancesByDraws_35 : decode cX7_dancesByDraws 35 = .ok (.return_, 1) := by decide +kernel
theorem dX7_loose_0 : decode cX7_loose 0 = .ok (.iload_n 1, 1) := by decide +kernel
theorem dX7_loose_1 : decode cX7_loose 1 = .ok (.iconst 1, 1) := by decide +kernel
theorem dX7_loose_2 : decode cX7_loose 2 = .ok (.bipush 40, 2) := by decide +kernel
theorem dX7_loose_4 : decode cX7_loose 4 = .ok (.invokestatic 73, 3) := by decide +kernel
theorem dX7_loose_7 : decode cX7_loose 7 = .ok (.ifCond .ne 10, 3) := by decide +kernel
theorem dX7_loose_10 : decode cX7_loose 10 = .ok (.aload_n 0, 1) := by decide +kernel
theorem dX7_loose_11 : decode cX7_loose 11 = .ok (.ldc 77, 2) := by decide +kernel
theorem dX7_loose_13 : decode cX7_loose 13 = .ok (.invokevirtual 78, 3) := by decide +kernel
theorem dX7_loose_16 : decode cX7_loose 16 = .ok (.ireturn, 1) := by decide +kernel
theorem dX7_loose_17 : decode cX7_loose 17 = .ok (.aload_n 0, 1) := by decide +kernel
theorem dX7_loose_18 : decode cX7_loose 18 = .ok (.getfield 9, 3) := by decide +kernel
theorem dX7_loose_21 : decode cX7_loose 21 = .ok (.iconst 0, 1) := by decide +kernel
theorem dX7_loose_22 : decode cX7_loose 22 = .ok (.iaload, 1) := by decide +kernel
theorem dX7_loose_23 : decode cX7_loose 23 = .ok (.iload_n 1, 1) := by decide +kernel
theorem dX7_loose_24 : decode cX7_loose 24 = .ok (.iadd, 1) := by decide +kernel
theorem dX7_loose_25 : decode cX7_loose 25 = .ok (.sipush 9999, 3) := by decide +kernel
theorem dX7_loose_28 : decode cX7_loose 28 = .ok (.if_icmp .le 10, 3) := by decide +kernel
theorem dX7_loose_31 : decode cX7_loose 31 = .ok (.aload_n 0, 1) := by decide +kernel
theorem dX7_loose_32 : decode cX7_loose 32 = .ok (.ldc 207, 2) := by decide +kernel
theorem dX7_loose_34 : decode cX7_loose 34 = .ok (.invokevirtual 78, 3) := by decide +kernel
theorem dX7_loose_37 : decode cX7_loose 37 = .ok (.ireturn, 1) := by decide +kernel
theorem dX7_loose_38 : decode cX7_loose 38 = .ok (.iconst 0, 1) := by decide +kernel
theorem dX7_loose_39 : decode cX7_loose 39 = .ok (.istore_n 2, 1) := by decide +kernel
theorem dX7_loose_40 : decode cX7_loose 40 = .ok (.iload_n 2, 1) := by decide +kernel
theorem dX7_loose_41 : decode cX7_loose 41 = .ok (.iload_n 1, 1) := by decide +kernel
theorem dX7_loose_42 : decode cX7_loose 42 = .ok (.if_icmp .ge 27, 3) := by decide +kernel
theorem dX7_loose_45 : decode cX7_loose 45 = .ok (.aload_n 0, 1) := by decide +kernel
theorem dX7_loose_46 : decode cX7_loose 46 = .ok (.getfield 9, 3) := by decide +kernel
theorem dX7_loose_49 : decode cX7_loose 49 = .ok (.iconst 1, 1) := by decide +kernel
theorem dX7_loose_50 : decode cX7_loose 50 = .ok (.iaload, 1) := by decide +kernel
theorem dX7_loose_51 : decode cX7_loose 51 = .ok (.iconst 1, 1) := by decide +kernel
theorem dX7_loose_52 : decode cX7_loose 52 = .ok (.if_icmp .le 7, 3) := by decide +kernel
theorem dX7_loose_55 : decode cX7_loose 55 = .ok (.aload_n 0, 1) := by decide +kernel
theorem dX7_loose_56 : decode cX7_loose 56 = .ok (.invokevirtual 227, 3) := by decide +kernel
theorem dX7_loose_59 : decode cX7_loose 59 = .ok (.aload_n 0, 1) := by decide +kernel
theorem dX7_loose_60 : decode cX7_loose 60 = .ok (.invokevirtual 214, 3) := by decide +kernel
theorem dX7_loose_63 : decode cX7_loose 63 = .ok (.iinc 2 1, 3) := by decide +kernel
theorem dX7_loose_66 : decode cX7_loose 66 = .ok (.goto (-26), 3) := by decide +kernel
theorem dX7_loose_69 : decode cX7_loose 69 = .ok (.aload_n 0, 1) := by decide +kernel
theorem dX7_loose_70 : decode cX7_loose 70 = .ok (.iconst 2, 1) := by decide +kernel
theorem dX7_loose_71 : decode cX7_loose 71 = .ok (.invokevirtual 220, 3) := by decide +kernel
theorem dX7_loose_74 : decode cX7_loose 74 = .ok (.ireturn, 1) := by decide +kernel
theorem dX7_isBehind_0 : decode cX7_isBehind 0 = .ok (.iload_n 0, 1) := by decide +kernel
theorem dX7_isBehind_1 : decode cX7_isBehind 1 = .ok (.iconst 0, 1) := by decide +kernel
theorem dX7_isBehind_2 : decode cX7_isBehind 2 = .ok (.bipush 60, 2) := by decide +kernel
theorem dX7_isBehind_4 : decode cX7_isBehind 4 = .ok (.invokestatic 73, 3) := by decide +kernel
theorem dX7_isBehind_7 : decode cX7_isBehind 7 = .ok (.ireturn, 1) := by decide +kernel
theorem dX7_isSoon_0 : decode cX7_isSoon 0 = .ok (.iload_n 0, 1) := by decide +kernel
theorem dX7_isSoon_1 : decode cX7_isSoon 1 = .ok (.iconst 0, 1) := by decide +kernel
theorem dX7_isSoon_2 : decode cX7_isSoon 2 = .ok (.bipush 20, 2) := by decide +kernel
theorem dX7_isSoon_4 : decode cX7_isSoon 4 = .ok (.invokestatic 73, 3) := by decide +kernel
theorem dX7_isSoon_7 : decode cX7_isSoon 7 = .ok (.ireturn, 1) := by decide +kernel
theorem dX7_then_0 : decode cX7_then 0 = .ok (.iload_n 1, 1) := by decide +kernel
theorem dX7_then_1 : decode cX7_then 1 = .ok (.invokestatic 230, 3) := by decide +kernel
theorem dX7_then_4 : decode cX7_then 4 = .ok (.ifCond .eq 20, 3) := by decide +kernel
theorem dX7_then_7 : decode cX7_then 7 = .ok (.aload_n 0, 1) := by decide +kernel
theorem dX7_then_8 : decode cX7_then 8 = .ok (.iload_n 2, 1) := by decide +kernel
theorem dX7_then_9 : decode cX7_then 9 = .ok (.invokevirtual 159, 3) := by decide +kernel
theorem dX7_then_12 : decode cX7_then 12 = .ok (.ifCond .eq 12, 3) := by decide +kernel
theorem dX7_then_15 : decode cX7_then 15 = .ok (.iload_n 3, 1) := by decide +kernel
theorem dX7_then_16 : decode cX7_then 16 = .ok (.iconst 0, 1) := by decide +kernel
theorem dX7_then_17 : decode cX7_then 17 = .ok (.iconst 1, 1) := by decide +kernel
theorem dX7_then_18 : decode cX7_then 18 = .ok (.invokestatic 73, 3) := by decide +kernel
theorem dX7_then_21 : decode cX7_then 21 = .ok (.ifCond .ne 10, 3) := by decide +kernel
theorem dX7_then_24 : decode cX7_then 24 = .ok (.aload_n 0, 1) := by decide +kernel
theorem dX7_then_25 : decode cX7_then 25 = .ok (.ldc 77, 2) := by decide +kernel
theorem dX7_then_27 : decode cX7_then 27 = .ok (.invokevirtual 78, 3) := by decide +kernel
theorem dX7_then_30 : decode cX7_then 30 = .ok (.ireturn, 1) := by decide +kernel
theorem dX7_then_31 : decode cX7_then 31 = .ok (.aload_n 0, 1) := by decide +kernel
theorem dX7_then_32 : decode cX7_then 32 = .ok (.getfield 9, 3) := by decide +kernel
theorem dX7_then_35 : decode cX7_then 35 = .ok (.aload_n 0, 1) := by decide +kernel
theorem dX7_then_36 : decode cX7_then 36 = .ok (.getfield 16, 3) := by decide +kernel
theorem dX7_then_39 : decode cX7_then 39 = .ok (.invokestatic 69, 3) := by decide +kernel
theorem dX7_then_42 : decode cX7_then 42 = .ok (.aload_n 0, 1) := by decide +kernel
theorem dX7_then_43 : decode cX7_then 43 = .ok (.iload_n 1, 1) := by decide +kernel
theorem dX7_then_44 : decode cX7_then 44 = .ok (.invokevirtual 217, 3) := by decide +kernel
theorem dX7_then_47 : decode cX7_then 47 = .ok (.aload_n 0, 1) := by decide +kernel
theorem dX7_then_48 : decode cX7_then 48 = .ok (.iload_n 3, 1) := by decide +kernel
theorem dX7_then_49 : decode cX7_then 49 = .ok (.ifCond .ne 11, 3) := by decide +kernel
theorem dX7_then_52 : decode cX7_then 52 = .ok (.aload_n 0, 1) := by decide +kernel
theorem dX7_then_53 : decode cX7_then 53 = .ok (.iload_n 2, 1) := by decide +kernel
theorem dX7_then_54 : decode cX7_then 54 = .ok (.invokevirtual 197, 3) := by decide +kernel
theorem dX7_then_57 : decode cX7_then 57 = .ok (.goto 8, 3) := by decide +kernel
theorem dX7_then_60 : decode cX7_then 60 = .ok (.aload_n 0, 1) := by decide +kernel
theorem dX7_then_61 : decode cX7_then 61 = .ok (.iload_n 2, 1) := by decide +kernel
theorem dX7_then_62 : decode cX7_then 62 = .ok (.invokevirtual 180, 3) := by decide +kernel
theorem dX7_then_65 : decode cX7_then 65 = .ok (.invokevirtual 233, 3) := by decide +kernel
theorem dX7_then_68 : decode cX7_then 68 = .ok (.ireturn, 1) := by decide +kernel
theorem dX7_last_0 : decode cX7_last 0 = .ok (.aload_n 0, 1) := by decide +kernel
theorem dX7_last_1 : decode cX7_last 1 = .ok (.iload_n 1, 1) := by decide +kernel
theorem dX7_last_2 : decode cX7_last 2 = .ok (.invokevirtual 159, 3) := by decide +kernel
theorem dX7_last_5 : decode cX7_last 5 = .ok (.ifCond .ne 10, 3) := by decide +kernel
theorem dX7_last_8 : decode cX7_last 8 = .ok (.aload_n 0, 1) := by decide +kernel
theorem dX7_last_9 : decode cX7_last 9 = .ok (.ldc 77, 2) := by decide +kernel
theorem dX7_last_11 : decode cX7_last 11 = .ok (.invokevirtual 78, 3) := by decide +kernel
theorem dX7_last_14 : decode cX7_last 14 = .ok (.ireturn, 1) := by decide +kernel
theorem dX7_last_15 : decode cX7_last 15 = .ok (.aload_n 0, 1) := by decide +kernel
theorem dX7_last_16 : decode cX7_last 16 = .ok (.getfield 9, 3) := by decide +kernel
theorem dX7_last_19 : decode cX7_last 19 = .ok (.aload_n 0, 1) := by decide +kernel
theorem dX7_last_20 : decode cX7_last 20 = .ok (.getfield 16, 3) := by decide +kernel
theorem dX7_last_23 : decode cX7_last 23 = .ok (.invokestatic 69, 3) := by decide +kernel
theorem dX7_last_26 : decode cX7_last 26 = .ok (.aload_n 0, 1) := by decide +kernel
theorem dX7_last_27 : decode cX7_last 27 = .ok (.getfield 9, 3) := by decide +kernel
theorem dX7_last_30 : decode cX7_last 30 = .ok (.iconst 1, 1) := by decide +kernel
theorem dX7_last_31 : decode cX7_last 31 = .ok (.iaload, 1) := by decide +kernel
theorem dX7_last_32 : decode cX7_last 32 = .ok (.iconst 1, 1) := by decide +kernel
theorem dX7_last_33 : decode cX7_last 33 = .ok (.isub, 1) := by decide +kernel
theorem dX7_last_34 : decode cX7_last 34 = .ok (.istore_n 2, 1) := by decide +kernel
theorem dX7_last_35 : decode cX7_last 35 = .ok (.iconst 0, 1) := by decide +kernel
theorem dX7_last_36 : decode cX7_last 36 = .ok (.istore_n 3, 1) := by decide +kernel
theorem dX7_last_37 : decode cX7_last 37 = .ok (.iload_n 3, 1) := by decide +kernel
theorem dX7_last_38 : decode cX7_last 38 = .ok (.bipush 60, 2) := by decide +kernel
theorem dX7_last_40 : decode cX7_last 40 = .ok (.if_icmp .ge 22, 3) := by decide +kernel
theorem dX7_last_43 : decode cX7_last 43 = .ok (.aload_n 0, 1) := by decide +kernel
theorem dX7_last_44 : decode cX7_last 44 = .ok (.iload_n 1, 1) := by decide +kernel
theorem dX7_last_45 : decode cX7_last 45 = .ok (.invokevirtual 180, 3) := by decide +kernel
theorem dX7_last_48 : decode cX7_last 48 = .ok (.iload_n 2, 1) := by decide +kernel
theorem dX7_last_49 : decode cX7_last 49 = .ok (.if_icmp .eq 13, 3) := by decide +kernel
theorem dX7_last_52 : decode cX7_last 52 = .ok (.aload_n 0, 1) := by decide +kernel
theorem dX7_last_53 : decode cX7_last 53 = .ok (.invokevirtual 214, 3) := by decide +kernel
theorem dX7_last_56 : decode cX7_last 56 = .ok (.iinc 3 1, 3) := by decide +kernel
theorem dX7_last_59 : decode cX7_last 59 = .ok (.goto (-22), 3) := by decide +kernel
theorem dX7_last_62 : decode cX7_last 62 = .ok (.aload_n 0, 1) := by decide +kernel
theorem dX7_last_63 : decode cX7_last 63 = .ok (.iload_n 1, 1) := by decide +kernel
theorem dX7_last_64 : decode cX7_last 64 = .ok (.invokevirtual 180, 3) := by decide +kernel
theorem dX7_last_67 : decode cX7_last 67 = .ok (.iload_n 2, 1) := by decide +kernel
theorem dX7_last_68 : decode cX7_last 68 = .ok (.if_icmp .ne 7, 3) := by decide +kernel
theorem dX7_last_71 : decode cX7_last 71 = .ok (.iconst 1, 1) := by decide +kernel
theorem dX7_last_72 : decode cX7_last 72 = .ok (.goto 4, 3) := by decide +kernel
theorem dX7_last_75 : decode cX7_last 75 = .ok (.iconst 0, 1) := by decide +kernel
theorem dX7_last_76 : decode cX7_last 76 = .ok (.istore 4, 2) := by decide +kernel
theorem dX7_last_78 : decode cX7_last 78 = .ok (.aload_n 0, 1) := by decide +kernel
theorem dX7_last_79 : decode cX7_last 79 = .ok (.getfield 16, 3) := by decide +kernel
theorem dX7_last_82 : decode cX7_last 82 = .ok (.aload_n 0, 1) := by decide +kernel
theorem dX7_last_83 : decode cX7_last 83 = .ok (.getfield 9, 3) := by decide +kernel
theorem dX7_last_86 : decode cX7_last 86 = .ok (.invokestatic 69, 3) := by decide +kernel
theorem dX7_last_89 : decode cX7_last 89 = .ok (.iload 4, 2) := by decide +kernel
theorem dX7_last_91 : decode cX7_last 91 = .ok (.ifCond .eq 7, 3) := by decide +kernel
theorem dX7_last_94 : decode cX7_last 94 = .ok (.iload_n 3, 1) := by decide +kernel
theorem dX7_last_95 : decode cX7_last 95 = .ok (.goto 9, 3) := by decide +kernel
theorem dX7_last_98 : decode cX7_last 98 = .ok (.aload_n 0, 1) := by decide +kernel
theorem dX7_last_99 : decode cX7_last 99 = .ok (.ldc 236, 2) := by decide +kernel
theorem dX7_last_101 : decode cX7_last 101 = .ok (.invokevirtual 78, 3) := by decide +kernel
theorem dX7_last_104 : decode cX7_last 104 = .ok (.ireturn, 1) := by decide +kernel
theorem dX7_pegWith_0 : decode cX7_pegWith 0 = .ok (.aload_n 0, 1) := by decide +kernel
theorem dX7_pegWith_1 : decode cX7_pegWith 1 = .ok (.getfield 9, 3) := by decide +kernel
theorem dX7_pegWith_4 : decode cX7_pegWith 4 = .ok (.aload_n 0, 1) := by decide +kernel
theorem dX7_pegWith_5 : decode cX7_pegWith 5 = .ok (.getfield 16, 3) := by decide +kernel
theorem dX7_pegWith_8 : decode cX7_pegWith 8 = .ok (.invokestatic 69, 3) := by decide +kernel
theorem dX7_pegWith_11 : decode cX7_pegWith 11 = .ok (.aload_n 0, 1) := by decide +kernel
theorem dX7_pegWith_12 : decode cX7_pegWith 12 = .ok (.iload_n 1, 1) := by decide +kernel
theorem dX7_pegWith_13 : decode cX7_pegWith 13 = .ok (.iload_n 2, 1) := by decide +kernel
theorem dX7_pegWith_14 : decode cX7_pegWith 14 = .ok (.invokevirtual 208, 3) := by decide +kernel
theorem dX7_pegWith_17 : decode cX7_pegWith 17 = .ok (.aload_n 0, 1) := by decide +kernel
theorem dX7_pegWith_18 : decode cX7_pegWith 18 = .ok (.iload_n 3, 1) := by decide +kernel
theorem dX7_pegWith_19 : decode cX7_pegWith 19 = .ok (.invokevirtual 217, 3) := by decide +kernel
theorem dX7_pegWith_22 : decode cX7_pegWith 22 = .ok (.aload_n 0, 1) := by decide +kernel
theorem dX7_pegWith_23 : decode cX7_pegWith 23 = .ok (.aload_n 0, 1) := by decide +kernel
theorem dX7_pegWith_24 : decode cX7_pegWith 24 = .ok (.iload_n 1, 1) := by decide +kernel
theorem dX7_pegWith_25 : decode cX7_pegWith 25 = .ok (.invokevirtual 180, 3) := by decide +kernel
theorem dX7_pegWith_28 : decode cX7_pegWith 28 = .ok (.invokevirtual 233, 3) := by decide +kernel
theorem dX7_pegWith_31 : decode cX7_pegWith 31 = .ok (.ireturn, 1) := by decide +kernel
theorem dX7_partner_0 : decode cX7_partner 0 = .ok (.aload_n 0, 1) := by decide +kernel
theorem dX7_partner_1 : decode cX7_partner 1 = .ok (.iload_n 1, 1) := by decide +kernel
theorem dX7_partner_2 : decode cX7_partner 2 = .ok (.invokevirtual 159, 3) := by decide +kernel
theorem dX7_partner_5 : decode cX7_partner 5 = .ok (.ifCond .eq 19, 3) := by decide +kernel
theorem dX7_partner_8 : decode cX7_partner 8 = .ok (.iload_n 2, 1) := by decide +kernel
theorem dX7_partner_9 : decode cX7_partner 9 = .ok (.invokestatic 237, 3) := by decide +kernel
theorem dX7_partner_12 : decode cX7_partner 12 = .ok (.ifCond .eq 12, 3) := by decide +kernel
theorem dX7_partner_15 : decode cX7_partner 15 = .ok (.iload_n 3, 1) := by decide +kernel
theorem dX7_partner_16 : decode cX7_partner 16 = .ok (.iconst 0, 1) := by decide +kernel
theorem dX7_partner_17 : decode cX7_partner 17 = .ok (.iconst 1, 1) := by decide +kernel
theorem dX7_partner_18 : decode cX7_partner 18 = .ok (.invokestatic 73, 3) := by decide +kernel
theorem dX7_partner_21 : decode cX7_partner 21 = .ok (.ifCond .ne 10, 3) := by decide +kernel
theorem dX7_partner_24 : decode cX7_partner 24 = .ok (.aload_n 0, 1) := by decide +kernel
theorem dX7_partner_25 : decode cX7_partner 25 = .ok (.ldc 77, 2) := by decide +kernel
theorem dX7_partner_27 : decode cX7_partner 27 = .ok (.invokevirtual 78, 3) := by decide +kernel
theorem dX7_partner_30 : decode cX7_partner 30 = .ok (.ireturn, 1) := by decide +kernel
theorem dX7_partner_31 : decode cX7_partner 31 = .ok (.iconst (-1), 1) := by decide +kernel
theorem dX7_partner_32 : decode cX7_partner 32 = .ok (.istore 4, 2) := by decide +kernel
theorem dX7_partner_34 : decode cX7_partner 34 = .ok (.bipush 7, 2) := by decide +kernel
theorem dX7_partner_36 : decode cX7_partner 36 = .ok (.istore 5, 2) := by decide +kernel
theorem dX7_partner_38 : decode cX7_partner 38 = .ok (.iconst 0, 1) := by decide +kernel
theorem dX7_partner_39 : decode cX7_partner 39 = .ok (.istore 6, 2) := by decide +kernel
theorem dX7_partner_41 : decode cX7_partner 41 = .ok (.iload 6, 2) := by decide +kernel
theorem dX7_partner_43 : decode cX7_partner 43 = .ok (.aload_n 0, 1) := by decide +kernel
theorem dX7_partner_44 : decode cX7_partner 44 = .ok (.getfield 9, 3) := by decide +kernel
theorem dX7_partner_47 : decode cX7_partner 47 = .ok (.iconst 1, 1) := by decide +kernel
theorem dX7_partner_48 : decode cX7_partner 48 = .ok (.iaload, 1) := by decide +kernel
theorem dX7_partner_49 : decode cX7_partner 49 = .ok (.if_icmp .ge 55, 3) := by decide +kernel
theorem dX7_partner_52 : decode cX7_partner 52 = .ok (.iload 6, 2) := by decide +kernel
theorem dX7_partner_54 : decode cX7_partner 54 = .ok (.iload_n 1, 1) := by decide +kernel
theorem dX7_partner_55 : decode cX7_partner 55 = .ok (.if_icmp .ne 8, 3) := by decide +kernel
theorem dX7_partner_58 : decode cX7_partner 58 = .ok (.bipush 7, 2) := by decide +kernel
theorem dX7_partner_60 : decode cX7_partner 60 = .ok (.goto 11, 3) := by decide +kernel
theorem dX7_partner_63 : decode cX7_partner 63 = .ok (.aload_n 0, 1) := by decide +kernel
theorem dX7_partner_64 : decode cX7_partner 64 = .ok (.iload_n 1, 1) := by decide +kernel
theorem dX7_partner_65 : decode cX7_partner 65 = .ok (.iload 6, 2) := by decide +kernel
theorem dX7_partner_67 : decode cX7_partner 67 = .ok (.iload_n 2, 1) := by decide +kernel
theorem dX7_partner_68 : decode cX7_partner 68 = .ok (.invokevirtual 240, 3) := by decide +kernel
theorem dX7_partner_71 : decode cX7_partner 71 = .ok (.istore 7, 2) := by decide +kernel
theorem dX7_partner_73 : decode cX7_partner 73 = .ok (.iload 7, 2) := by decide +kernel
theorem dX7_partner_75 : decode cX7_partner 75 = .ok (.iload 5, 2) := by decide +kernel
theorem dX7_partner_77 : decode cX7_partner 77 = .ok (.if_icmp .ge 8, 3) := by decide +kernel
theorem dX7_partner_80 : decode cX7_partner 80 = .ok (.iload 6, 2) := by decide +kernel
theorem dX7_partner_82 : decode cX7_partner 82 = .ok (.goto 5, 3) := by decide +kernel
theorem dX7_partner_85 : decode cX7_partner 85 = .ok (.iload 4, 2) := by decide +kernel
theorem dX7_partner_87 : decode cX7_partner 87 = .ok (.istore 4, 2) := by decide +kernel
theorem dX7_partner_89 : decode cX7_partner 89 = .ok (.iload 5, 2) := by decide +kernel
theorem dX7_partner_91 : decode cX7_partner 91 = .ok (.iload 7, 2) := by decide +kernel
theorem dX7_partner_93 : decode cX7_partner 93 = .ok (.invokestatic 60, 3) := by decide +kernel
theorem dX7_partner_96 : decode cX7_partner 96 = .ok (.istore 5, 2) := by decide +kernel
theorem dX7_partner_98 : decode cX7_partner 98 = .ok (.iinc 6 1, 3) := by decide +kernel
theorem dX7_partner_101 : decode cX7_partner 101 = .ok (.goto (-60), 3) := by decide +kernel
theorem dX7_partner_104 : decode cX7_partner 104 = .ok (.iload 4, 2) := by decide +kernel
theorem dX7_partner_106 : decode cX7_partner 106 = .ok (.ifCond .ge 12, 3) := by decide +kernel
theorem dX7_partner_109 : decode cX7_partner 109 = .ok (.aload_n 0, 1) := by decide +kernel
theorem dX7_partner_110 : decode cX7_partner 110 = .ok (.ldc 236, 2) := by decide +kernel
theorem dX7_partner_112 : decode cX7_partner 112 = .ok (.invokevirtual 78, 3) := by decide +kernel
theorem dX7_partner_115 : decode cX7_partner 115 = .ok (.goto 14, 3) := by decide +kernel
theorem dX7_partner_118 : decode cX7_partner 118 = .ok (.iload_n 3, 1) := by decide +kernel
theorem dX7_partner_119 : decode cX7_partner 119 = .ok (.ifCond .ne 8, 3) := by decide +kernel
theorem dX7_partner_122 : decode cX7_partner 122 = .ok (.iload 4, 2) := by decide +kernel
theorem dX7_partner_124 : decode cX7_partner 124 = .ok (.goto 5, 3) := by decide +kernel
theorem dX7_partner_127 : decode cX7_partner 127 = .ok (.iload 5, 2) := by decide +kernel
theorem dX7_partner_129 : decode cX7_partner 129 = .ok (.ireturn, 1) := by decide +kernel
theorem dX7_hangsBy_0 : decode cX7_hangsBy 0 = .ok (.aload_n 0, 1) := by decide +kernel
theorem dX7_hangsBy_1 : decode cX7_hangsBy 1 = .ok (.getfield 9, 3) := by decide +kernel
theorem dX7_hangsBy_4 : decode cX7_hangsBy 4 = .ok (.aload_n 0, 1) := by decide +kernel
theorem dX7_hangsBy_5 : decode cX7_hangsBy 5 = .ok (.getfield 16, 3) := by decide +kernel
theorem dX7_hangsBy_8 : decode cX7_hangsBy 8 = .ok (.invokestatic 69, 3) := by decide +kernel
theorem dX7_hangsBy_11 : decode cX7_hangsBy 11 = .ok (.iload 4, 2) := by decide +kernel
theorem dX7_hangsBy_13 : decode cX7_hangsBy 13 = .ok (.ifCond .lt 17, 3) := by decide +kernel
theorem dX7_hangsBy_16 : decode cX7_hangsBy 16 = .ok (.aload_n 0, 1) := by decide +kernel
theorem dX7_hangsBy_17 : decode cX7_hangsBy 17 = .ok (.iload 4, 2) := by decide +kernel
theorem dX7_hangsBy_19 : decode cX7_hangsBy 19 = .ok (.bipush 7, 2) := by decide +kernel
theorem dX7_hangsBy_21 : decode cX7_hangsBy 21 = .ok (.idiv, 1) := by decide +kernel
theorem dX7_hangsBy_22 : decode cX7_hangsBy 22 = .ok (.iload 4, 2) := by decide +kernel
theorem dX7_hangsBy_24 : decode cX7_hangsBy 24 = .ok (.bipush 7, 2) := by decide +kernel
theorem dX7_hangsBy_26 : decode cX7_hangsBy 26 = .ok (.irem, 1) := by decide +kernel
theorem dX7_hangsBy_27 : decode cX7_hangsBy 27 = .ok (.invokevirtual 208, 3) := by decide +kernel
theorem dX7_hangsBy_30 : decode cX7_hangsBy 30 = .ok (.iload 5, 2) := by decide +kernel
theorem dX7_hangsBy_32 : decode cX7_hangsBy 32 = .ok (.ifCond .lt 17, 3) := by decide +kernel
theorem dX7_hangsBy_35 : decode cX7_hangsBy 35 = .ok (.aload_n 0, 1) := by decide +kernel
theorem dX7_hangsBy_36 : decode cX7_hangsBy 36 = .ok (.iload 5, 2) := by decide +kernel
theorem dX7_hangsBy_38 : decode cX7_hangsBy 38 = .ok (.bipush 7, 2) := by decide +kernel
theorem dX7_hangsBy_40 : decode cX7_hangsBy 40 = .ok (.idiv, 1) := by decide +kernel
theorem dX7_hangsBy_41 : decode cX7_hangsBy 41 = .ok (.iload 5, 2) := by decide +kernel
theorem dX7_hangsBy_43 : decode cX7_hangsBy 43 = .ok (.bipush 7, 2) := by decide +kernel
theorem dX7_hangsBy_45 : decode cX7_hangsBy 45 = .ok (.irem, 1) := by decide +kernel
theorem dX7_hangsBy_46 : decode cX7_hangsBy 46 = .ok (.invokevirtual 208, 3) := by decide +kernel
theorem dX7_hangsBy_49 : decode cX7_hangsBy 49 = .ok (.aload_n 0, 1) := by decide +kernel
theorem dX7_hangsBy_50 : decode cX7_hangsBy 50 = .ok (.iload_n 3, 1) := by decide +kernel
theorem dX7_hangsBy_51 : decode cX7_hangsBy 51 = .ok (.invokevirtual 217, 3) := by decide +kernel
theorem dX7_hangsBy_54 : decode cX7_hangsBy 54 = .ok (.aload_n 0, 1) := by decide +kernel
theorem dX7_hangsBy_55 : decode cX7_hangsBy 55 = .ok (.iload_n 1, 1) := by decide +kernel
theorem dX7_hangsBy_56 : decode cX7_hangsBy 56 = .ok (.invokevirtual 180, 3) := by decide +kernel
theorem dX7_hangsBy_59 : decode cX7_hangsBy 59 = .ok (.iload_n 2, 1) := by decide +kernel
theorem dX7_hangsBy_60 : decode cX7_hangsBy 60 = .ok (.if_icmp .gt 7, 3) := by decide +kernel
theorem dX7_hangsBy_63 : decode cX7_hangsBy 63 = .ok (.iconst 1, 1) := by decide +kernel
theorem dX7_hangsBy_64 : decode cX7_hangsBy 64 = .ok (.goto 4, 3) := by decide +kernel
theorem dX7_hangsBy_67 : decode cX7_hangsBy 67 = .ok (.iconst 0, 1) := by decide +kernel
theorem dX7_hangsBy_68 : decode cX7_hangsBy 68 = .ok (.istore 6, 2) := by decide +kernel
theorem dX7_hangsBy_70 : decode cX7_hangsBy 70 = .ok (.aload_n 0, 1) := by decide +kernel
theorem dX7_hangsBy_71 : decode cX7_hangsBy 71 = .ok (.getfield 16, 3) := by decide +kernel
theorem dX7_hangsBy_74 : decode cX7_hangsBy 74 = .ok (.aload_n 0, 1) := by decide +kernel
theorem dX7_hangsBy_75 : decode cX7_hangsBy 75 = .ok (.getfield 9, 3) := by decide +kernel
theorem dX7_hangsBy_78 : decode cX7_hangsBy 78 = .ok (.invokestatic 69, 3) := by decide +kernel
theorem dX7_hangsBy_81 : decode cX7_hangsBy 81 = .ok (.iload 6, 2) := by decide +kernel
theorem dX7_hangsBy_83 : decode cX7_hangsBy 83 = .ok (.ireturn, 1) := by decide +kernel
theorem dX7_isPair_0 : decode cX7_isPair 0 = .ok (.iload_n 1, 1) := by decide +kernel
theorem dX7_isPair_1 : decode cX7_isPair 1 = .ok (.bipush 7, 2) := by decide +kernel
theorem dX7_isPair_3 : decode cX7_isPair 3 = .ok (.idiv, 1) := by decide +kernel
theorem dX7_isPair_4 : decode cX7_isPair 4 = .ok (.iload_n 1, 1) := by decide +kernel
theorem dX7_isPair_5 : decode cX7_isPair 5 = .ok (.bipush 7, 2) := by decide +kernel
theorem dX7_isPair_7 : decode cX7_isPair 7 = .ok (.irem, 1) := by decide +kernel
theorem dX7_isPair_8 : decode cX7_isPair 8 = .ok (.if_icmp .ge 18, 3) := by decide +kernel
theorem dX7_isPair_11 : decode cX7_isPair 11 = .ok (.aload_n 0, 1) := by decide +kernel
theorem dX7_isPair_12 : decode cX7_isPair 12 = .ok (.iload_n 1, 1) := by decide +kernel
theorem dX7_isPair_13 : decode cX7_isPair 13 = .ok (.bipush 7, 2) := by decide +kernel
theorem dX7_isPair_15 : decode cX7_isPair 15 = .ok (.irem, 1) := by decide +kernel
theorem dX7_isPair_16 : decode cX7_isPair 16 = .ok (.invokevirtual 159, 3) := by decide +kernel
theorem dX7_isPair_19 : decode cX7_isPair 19 = .ok (.ifCond .eq 7, 3) := by decide +kernel
theorem dX7_isPair_22 : decode cX7_isPair 22 = .ok (.iconst 1, 1) := by decide +kernel
theorem dX7_isPair_23 : decode cX7_isPair 23 = .ok (.goto 4, 3) := by decide +kernel
theorem dX7_isPair_26 : decode cX7_isPair 26 = .ok (.iconst 0, 1) := by decide +kernel
theorem dX7_isPair_27 : decode cX7_isPair 27 = .ok (.ireturn, 1) := by decide +kernel
theorem dX7_dances_0 : decode cX7_dances 0 = .ok (.aload_n 0, 1) := by decide +kernel
theorem dX7_dances_1 : decode cX7_dances 1 = .ok (.iload_n 1, 1) := by decide +kernel
theorem dX7_dances_2 : decode cX7_dances 2 = .ok (.invokevirtual 159, 3) := by decide +kernel
theorem dX7_dances_5 : decode cX7_dances 5 = .ok (.ifCond .eq 31, 3) := by decide +kernel
theorem dX7_dances_8 : decode cX7_dances 8 = .ok (.aload_n 0, 1) := by decide +kernel
theorem dX7_dances_9 : decode cX7_dances 9 = .ok (.iload_n 2, 1) := by decide +kernel
theorem dX7_dances_10 : decode cX7_dances 10 = .ok (.invokevirtual 159, 3) := by decide +kernel
theorem dX7_dances_13 : decode cX7_dances 13 = .ok (.ifCond .eq 23, 3) := by decide +kernel
theorem dX7_dances_16 : decode cX7_dances 16 = .ok (.iload_n 3, 1) := by decide +kernel
theorem dX7_dances_17 : decode cX7_dances 17 = .ok (.iconst 0, 1) := by decide +kernel
theorem dX7_dances_18 : decode cX7_dances 18 = .ok (.bipush 6, 2) := by decide +kernel
theorem dX7_dances_20 : decode cX7_dances 20 = .ok (.invokestatic 73, 3) := by decide +kernel
theorem dX7_dances_23 : decode cX7_dances 23 = .ok (.ifCond .eq 13, 3) := by decide +kernel
theorem dX7_dances_26 : decode cX7_dances 26 = .ok (.iload 4, 2) := by decide +kernel
theorem dX7_dances_28 : decode cX7_dances 28 = .ok (.iconst 0, 1) := by decide +kernel
theorem dX7_dances_29 : decode cX7_dances 29 = .ok (.iconst 1, 1) := by decide +kernel
theorem dX7_dances_30 : decode cX7_dances 30 = .ok (.invokestatic 73, 3) := by decide +kernel
theorem dX7_dances_33 : decode cX7_dances 33 = .ok (.ifCond .ne 10, 3) := by decide +kernel
theorem dX7_dances_36 : decode cX7_dances 36 = .ok (.aload_n 0, 1) := by decide +kernel
theorem dX7_dances_37 : decode cX7_dances 37 = .ok (.ldc 77, 2) := by decide +kernel
theorem dX7_dances_39 : decode cX7_dances 39 = .ok (.invokevirtual 78, 3) := by decide +kernel
theorem dX7_dances_42 : decode cX7_dances 42 = .ok (.ireturn, 1) := by decide +kernel
theorem dX7_dances_43 : decode cX7_dances 43 = .ok (.aload_n 0, 1) := by decide +kernel
theorem dX7_dances_44 : decode cX7_dances 44 = .ok (.iload_n 1, 1) := by decide +kernel
theorem dX7_dances_45 : decode cX7_dances 45 = .ok (.iload_n 2, 1) := by decide +kernel
theorem dX7_dances_46 : decode cX7_dances 46 = .ok (.iload_n 3, 1) := by decide +kernel
theorem dX7_dances_47 : decode cX7_dances 47 = .ok (.iconst (-1), 1) := by decide +kernel
theorem dX7_dances_48 : decode cX7_dances 48 = .ok (.iconst (-1), 1) := by decide +kernel
theorem dX7_dances_49 : decode cX7_dances 49 = .ok (.invokevirtual 243, 3) := by decide +kernel
theorem dX7_dances_52 : decode cX7_dances 52 = .ok (.ifCond .eq 7, 3) := by decide +kernel
theorem dX7_dances_55 : decode cX7_dances 55 = .ok (.iconst 0, 1) := by decide +kernel
theorem dX7_dances_56 : decode cX7_dances 56 = .ok (.goto 4, 3) := by decide +kernel
theorem dX7_dances_59 : decode cX7_dances 59 = .ok (.iconst (-1), 1) := by decide +kernel
theorem dX7_dances_60 : decode cX7_dances 60 = .ok (.istore 5, 2) := by decide +kernel
theorem dX7_dances_62 : decode cX7_dances 62 = .ok (.iconst (-1), 1) := by decide +kernel
theorem dX7_dances_63 : decode cX7_dances 63 = .ok (.istore 6, 2) := by decide +kernel
theorem dX7_dances_65 : decode cX7_dances 65 = .ok (.iconst 0, 1) := by decide +kernel
theorem dX7_dances_66 : decode cX7_dances 66 = .ok (.istore 7, 2) := by decide +kernel
theorem dX7_dances_68 : decode cX7_dances 68 = .ok (.iload 7, 2) := by decide +kernel
theorem dX7_dances_70 : decode cX7_dances 70 = .ok (.bipush 49, 2) := by decide +kernel
theorem dX7_dances_72 : decode cX7_dances 72 = .ok (.if_icmp .ge 43, 3) := by decide +kernel
theorem dX7_dances_75 : decode cX7_dances 75 = .ok (.iload 5, 2) := by decide +kernel
theorem dX7_dances_77 : decode cX7_dances 77 = .ok (.ifCond .ge 38, 3) := by decide +kernel
theorem dX7_dances_80 : decode cX7_dances 80 = .ok (.aload_n 0, 1) := by decide +kernel
theorem dX7_dances_81 : decode cX7_dances 81 = .ok (.iload 7, 2) := by decide +kernel
theorem dX7_dances_83 : decode cX7_dances 83 = .ok (.invokevirtual 247, 3) := by decide +kernel
theorem dX7_dances_86 : decode cX7_dances 86 = .ok (.ifCond .eq 23, 3) := by decide +kernel
theorem dX7_dances_89 : decode cX7_dances 89 = .ok (.aload_n 0, 1) := by decide +kernel
theorem dX7_dances_90 : decode cX7_dances 90 = .ok (.iload_n 1, 1) := by decide +kernel
theorem dX7_dances_91 : decode cX7_dances 91 = .ok (.iload_n 2, 1) := by decide +kernel
theorem dX7_dances_92 : decode cX7_dances 92 = .ok (.iload_n 3, 1) := by decide +kernel
theorem dX7_dances_93 : decode cX7_dances 93 = .ok (.iload 7, 2) := by decide +kernel
theorem dX7_dances_95 : decode cX7_dances 95 = .ok (.iconst (-1), 1) := by decide +kernel
theorem dX7_dances_96 : decode cX7_dances 96 = .ok (.invokevirtual 243, 3) := by decide +kernel
theorem dX7_dances_99 : decode cX7_dances 99 = .ok (.ifCond .eq 10, 3) := by decide +kernel
theorem dX7_dances_102 : decode cX7_dances 102 = .ok (.iconst 1, 1) := by decide +kernel
theorem dX7_dances_103 : decode cX7_dances 103 = .ok (.istore 5, 2) := by decide +kernel
theorem dX7_dances_105 : decode cX7_dances 105 = .ok (.iload 7, 2) := by decide +kernel
theorem dX7_dances_107 : decode cX7_dances 107 = .ok (.istore 6, 2) := by decide +kernel
theorem dX7_dances_109 : decode cX7_dances 109 = .ok (.iinc 7 1, 3) := by decide +kernel
theorem dX7_dances_112 : decode cX7_dances 112 = .ok (.goto (-44), 3) := by decide +kernel
theorem dX7_dances_115 : decode cX7_dances 115 = .ok (.iconst 0, 1) := by decide +kernel
theorem dX7_dances_116 : decode cX7_dances 116 = .ok (.istore 7, 2) := by decide +kernel
theorem dX7_dances_118 : decode cX7_dances 118 = .ok (.iload 7, 2) := by decide +kernel
theorem dX7_dances_120 : decode cX7_dances 120 = .ok (.bipush 49, 2) := by decide +kernel
theorem dX7_dances_122 : decode cX7_dances 122 = .ok (.if_icmp .ge 74, 3) := by decide +kernel
theorem dX7_dances_125 : decode cX7_dances 125 = .ok (.iload 5, 2) := by decide +kernel
theorem dX7_dances_127 : decode cX7_dances 127 = .ok (.ifCond .ge 69, 3) := by decide +kernel
theorem dX7_dances_130 : decode cX7_dances 130 = .ok (.iconst 0, 1) := by decide +kernel
theorem dX7_dances_131 : decode cX7_dances 131 = .ok (.istore 8, 2) := by decide +kernel
theorem dX7_dances_133 : decode cX7_dances 133 = .ok (.iload 8, 2) := by decide +kernel
theorem dX7_dances_135 : decode cX7_dances 135 = .ok (.bipush 49, 2) := by decide +kernel
theorem dX7_dances_137 : decode cX7_dances 137 = .ok (.if_icmp .ge 53, 3) := by decide +kernel
theorem dX7_dances_140 : decode cX7_dances 140 = .ok (.aload_n 0, 1) := by decide +kernel
theorem dX7_dances_141 : decode cX7_dances 141 = .ok (.iload 7, 2) := by decide +kernel
theorem dX7_dances_143 : decode cX7_dances 143 = .ok (.invokevirtual 247, 3) := by decide +kernel
theorem dX7_dances_146 : decode cX7_dances 146 = .ok (.ifCond .eq 44, 3) := by decide +kernel
theorem dX7_dances_149 : decode cX7_dances 149 = .ok (.iload 5, 2) := by decide +kernel
theorem dX7_dances_151 : decode cX7_dances 151 = .ok (.ifCond .ge 39, 3) := by decide +kernel
theorem dX7_dances_154 : decode cX7_dances 154 = .ok (.aload_n 0, 1) := by decide +kernel
theorem dX7_dances_155 : decode cX7_dances 155 = .ok (.iload 8, 2) := by decide +kernel
theorem dX7_dances_157 : decode cX7_dances 157 = .ok (.invokevirtual 247, 3) := by decide +kernel
theorem dX7_dances_160 : decode cX7_dances 160 = .ok (.ifCond .eq 24, 3) := by decide +kernel
theorem dX7_dances_163 : decode cX7_dances 163 = .ok (.aload_n 0, 1) := by decide +kernel
theorem dX7_dances_164 : decode cX7_dances 164 = .ok (.iload_n 1, 1) := by decide +kernel
theorem dX7_dances_165 : decode cX7_dances 165 = .ok (.iload_n 2, 1) := by decide +kernel
theorem dX7_dances_166 : decode cX7_dances 166 = .ok (.iload_n 3, 1) := by decide +kernel
theorem dX7_dances_167 : decode cX7_dances 167 = .ok (.iload 7, 2) := by decide +kernel
theorem dX7_dances_169 : decode cX7_dances 169 = .ok (.iload 8, 2) := by decide +kernel
theorem dX7_dances_171 : decode cX7_dances 171 = .ok (.invokevirtual 243, 3) := by decide +kernel
theorem dX7_dances_174 : decode cX7_dances 174 = .ok (.ifCond .eq 10, 3) := by decide +kernel
theorem dX7_dances_177 : decode cX7_dances 177 = .ok (.iconst 2, 1) := by decide +kernel
theorem dX7_dances_178 : decode cX7_dances 178 = .ok (.istore 5, 2) := by decide +kernel
theorem dX7_dances_180 : decode cX7_dances 180 = .ok (.iload 7, 2) := by decide +kernel
theorem dX7_dances_182 : decode cX7_dances 182 = .ok (.istore 6, 2) := by decide +kernel
theorem dX7_dances_184 : decode cX7_dances 184 = .ok (.iinc 8 1, 3) := by decide +kernel
theorem dX7_dances_187 : decode cX7_dances 187 = .ok (.goto (-54), 3) := by decide +kernel
theorem dX7_dances_190 : decode cX7_dances 190 = .ok (.iinc 7 1, 3) := by decide +kernel
theorem dX7_dances_193 : decode cX7_dances 193 = .ok (.goto (-75), 3) := by decide +kernel
theorem dX7_dances_196 : decode cX7_dances 196 = .ok (.iload 5, 2) := by decide +kernel
theorem dX7_dances_198 : decode cX7_dances 198 = .ok (.ifCond .ge 10, 3) := by decide +kernel
theorem dX7_dances_201 : decode cX7_dances 201 = .ok (.aload_n 0, 1) := by decide +kernel
theorem dX7_dances_202 : decode cX7_dances 202 = .ok (.ldc 236, 2) := by decide +kernel
theorem dX7_dances_204 : decode cX7_dances 204 = .ok (.invokevirtual 78, 3) := by decide +kernel
theorem dX7_dances_207 : decode cX7_dances 207 = .ok (.ireturn, 1) := by decide +kernel
theorem dX7_dances_208 : decode cX7_dances 208 = .ok (.iload 4, 2) := by decide +kernel
theorem dX7_dances_210 : decode cX7_dances 210 = .ok (.ifCond .ne 8, 3) := by decide +kernel
theorem dX7_dances_213 : decode cX7_dances 213 = .ok (.iload 5, 2) := by decide +kernel
theorem dX7_dances_215 : decode cX7_dances 215 = .ok (.goto 26, 3) := by decide +kernel
theorem dX7_dances_218 : decode cX7_dances 218 = .ok (.iload 6, 2) := by decide +kernel
theorem dX7_dances_220 : decode cX7_dances 220 = .ok (.ifCond .ge 7, 3) := by decide +kernel
theorem dX7_dances_223 : decode cX7_dances 223 = .ok (.iconst (-1), 1) := by decide +kernel
theorem dX7_dances_224 : decode cX7_dances 224 = .ok (.goto 17, 3) := by decide +kernel
theorem dX7_dances_227 : decode cX7_dances 227 = .ok (.bipush 10, 2) := by decide +kernel
theorem dX7_dances_229 : decode cX7_dances 229 = .ok (.iload 6, 2) := by decide +kernel
theorem dX7_dances_231 : decode cX7_dances 231 = .ok (.bipush 7, 2) := by decide +kernel
theorem dX7_dances_233 : decode cX7_dances 233 = .ok (.idiv, 1) := by decide +kernel
theorem dX7_dances_234 : decode cX7_dances 234 = .ok (.imul, 1) := by decide +kernel
theorem dX7_dances_235 : decode cX7_dances 235 = .ok (.iload 6, 2) := by decide +kernel
theorem dX7_dances_237 : decode cX7_dances 237 = .ok (.bipush 7, 2) := by decide +kernel
theorem dX7_dances_239 : decode cX7_dances 239 = .ok (.irem, 1) := by decide +kernel
theorem dX7_dances_240 : decode cX7_dances 240 = .ok (.iadd, 1) := by decide +kernel
theorem dX7_dances_241 : decode cX7_dances 241 = .ok (.ireturn, 1) := by decide +kernel
theorem dX7_isSoDanced_0 : decode cX7_isSoDanced 0 = .ok (.aload_n 0, 1) := by decide +kernel
theorem dX7_isSoDanced_1 : decode cX7_isSoDanced 1 = .ok (.iconst 0, 1) := by decide +kernel
theorem dX7_isSoDanced_2 : decode cX7_isSoDanced 2 = .ok (.aload_n 0, 1) := by decide +kernel
theorem dX7_isSoDanced_3 : decode cX7_isSoDanced 3 = .ok (.iload_n 2, 1) := by decide +kernel
theorem dX7_isSoDanced_4 : decode cX7_isSoDanced 4 = .ok (.invokevirtual 197, 3) := by decide +kernel
theorem dX7_isSoDanced_7 : decode cX7_isSoDanced 7 = .ok (.aload_n 0, 1) := by decide +kernel
theorem dX7_isSoDanced_8 : decode cX7_isSoDanced 8 = .ok (.iload_n 3, 1) := by decide +kernel
theorem dX7_isSoDanced_9 : decode cX7_isSoDanced 9 = .ok (.invokevirtual 197, 3) := by decide +kernel
theorem dX7_isSoDanced_12 : decode cX7_isSoDanced 12 = .ok (.aload_n 0, 1) := by decide +kernel
theorem dX7_isSoDanced_13 : decode cX7_isSoDanced 13 = .ok (.iload_n 2, 1) := by decide +kernel
theorem dX7_isSoDanced_14 : decode cX7_isSoDanced 14 = .ok (.iconst 1, 1) := by decide +kernel
theorem dX7_isSoDanced_15 : decode cX7_isSoDanced 15 = .ok (.invokevirtual 165, 3) := by decide +kernel
theorem dX7_isSoDanced_18 : decode cX7_isSoDanced 18 = .ok (.invokevirtual 155, 3) := by decide +kernel
theorem dX7_isSoDanced_21 : decode cX7_isSoDanced 21 = .ok (.istore 4, 2) := by decide +kernel
theorem dX7_isSoDanced_23 : decode cX7_isSoDanced 23 = .ok (.aload_n 0, 1) := by decide +kernel
theorem dX7_isSoDanced_24 : decode cX7_isSoDanced 24 = .ok (.iconst 0, 1) := by decide +kernel
theorem dX7_isSoDanced_25 : decode cX7_isSoDanced 25 = .ok (.aload_n 0, 1) := by decide +kernel
theorem dX7_isSoDanced_26 : decode cX7_isSoDanced 26 = .ok (.iload_n 3, 1) := by decide +kernel
theorem dX7_isSoDanced_27 : decode cX7_isSoDanced 27 = .ok (.invokevirtual 197, 3) := by decide +kernel
theorem dX7_isSoDanced_30 : decode cX7_isSoDanced 30 = .ok (.aload_n 0, 1) := by decide +kernel
theorem dX7_isSoDanced_31 : decode cX7_isSoDanced 31 = .ok (.iload_n 2, 1) := by decide +kernel
theorem dX7_isSoDanced_32 : decode cX7_isSoDanced 32 = .ok (.invokevirtual 197, 3) := by decide +kernel
theorem dX7_isSoDanced_35 : decode cX7_isSoDanced 35 = .ok (.aload_n 0, 1) := by decide +kernel
theorem dX7_isSoDanced_36 : decode cX7_isSoDanced 36 = .ok (.iload_n 3, 1) := by decide +kernel
theorem dX7_isSoDanced_37 : decode cX7_isSoDanced 37 = .ok (.iconst 1, 1) := by decide +kernel
theorem dX7_isSoDanced_38 : decode cX7_isSoDanced 38 = .ok (.invokevirtual 165, 3) := by decide +kernel
theorem dX7_isSoDanced_41 : decode cX7_isSoDanced 41 = .ok (.invokevirtual 155, 3) := by decide +kernel
theorem dX7_isSoDanced_44 : decode cX7_isSoDanced 44 = .ok (.istore 5, 2) := by decide +kernel
theorem dX7_isSoDanced_46 : decode cX7_isSoDanced 46 = .ok (.iconst 1, 1) := by decide +kernel
theorem dX7_isSoDanced_47 : decode cX7_isSoDanced 47 = .ok (.istore 6, 2) := by decide +kernel
theorem dX7_isSoDanced_49 : decode cX7_isSoDanced 49 = .ok (.iconst 0, 1) := by decide +kernel
theorem dX7_isSoDanced_50 : decode cX7_isSoDanced 50 = .ok (.istore 7, 2) := by decide +kernel
theorem dX7_isSoDanced_52 : decode cX7_isSoDanced 52 = .ok (.iload 7, 2) := by decide +kernel
theorem dX7_isSoDanced_54 : decode cX7_isSoDanced 54 = .ok (.aload_n 0, 1) := by decide +kernel
theorem dX7_isSoDanced_55 : decode cX7_isSoDanced 55 = .ok (.getfield 9, 3) := by decide +kernel
theorem dX7_isSoDanced_58 : decode cX7_isSoDanced 58 = .ok (.iconst 1, 1) := by decide +kernel
theorem dX7_isSoDanced_59 : decode cX7_isSoDanced 59 = .ok (.iaload, 1) := by decide +kernel
theorem dX7_isSoDanced_60 : decode cX7_isSoDanced 60 = .ok (.if_icmp .ge 64, 3) := by decide +kernel
theorem dX7_isSoDanced_63 : decode cX7_isSoDanced 63 = .ok (.iload 6, 2) := by decide +kernel
theorem dX7_isSoDanced_65 : decode cX7_isSoDanced 65 = .ok (.ifCond .eq 50, 3) := by decide +kernel
theorem dX7_isSoDanced_68 : decode cX7_isSoDanced 68 = .ok (.aload_n 0, 1) := by decide +kernel
theorem dX7_isSoDanced_69 : decode cX7_isSoDanced 69 = .ok (.getfield 53, 3) := by decide +kernel
theorem dX7_isSoDanced_72 : decode cX7_isSoDanced 72 = .ok (.bipush 40, 2) := by decide +kernel
theorem dX7_isSoDanced_74 : decode cX7_isSoDanced 74 = .ok (.iload_n 1, 1) := by decide +kernel
theorem dX7_isSoDanced_75 : decode cX7_isSoDanced 75 = .ok (.imul, 1) := by decide +kernel
theorem dX7_isSoDanced_76 : decode cX7_isSoDanced 76 = .ok (.iload 7, 2) := by decide +kernel
theorem dX7_isSoDanced_78 : decode cX7_isSoDanced 78 = .ok (.iadd, 1) := by decide +kernel
theorem dX7_isSoDanced_79 : decode cX7_isSoDanced 79 = .ok (.iaload, 1) := by decide +kernel
theorem dX7_isSoDanced_80 : decode cX7_isSoDanced 80 = .ok (.iload 7, 2) := by decide +kernel
theorem dX7_isSoDanced_82 : decode cX7_isSoDanced 82 = .ok (.iload_n 2, 1) := by decide +kernel
theorem dX7_isSoDanced_83 : decode cX7_isSoDanced 83 = .ok (.if_icmp .ne 8, 3) := by decide +kernel
theorem dX7_isSoDanced_86 : decode cX7_isSoDanced 86 = .ok (.iload 4, 2) := by decide +kernel
theorem dX7_isSoDanced_88 : decode cX7_isSoDanced 88 = .ok (.goto 20, 3) := by decide +kernel
theorem dX7_isSoDanced_91 : decode cX7_isSoDanced 91 = .ok (.iload 7, 2) := by decide +kernel
theorem dX7_isSoDanced_93 : decode cX7_isSoDanced 93 = .ok (.iload_n 3, 1) := by decide +kernel
theorem dX7_isSoDanced_94 : decode cX7_isSoDanced 94 = .ok (.if_icmp .ne 8, 3) := by decide +kernel
theorem dX7_isSoDanced_97 : decode cX7_isSoDanced 97 = .ok (.iload 5, 2) := by decide +kernel
theorem dX7_isSoDanced_99 : decode cX7_isSoDanced 99 = .ok (.goto 9, 3) := by decide +kernel
theorem dX7_isSoDanced_102 : decode cX7_isSoDanced 102 = .ok (.aload_n 0, 1) := by decide +kernel
theorem dX7_isSoDanced_103 : decode cX7_isSoDanced 103 = .ok (.iload 7, 2) := by decide +kernel
theorem dX7_isSoDanced_105 : decode cX7_isSoDanced 105 = .ok (.invokevirtual 197, 3) := by decide +kernel
theorem dX7_isSoDanced_108 : decode cX7_isSoDanced 108 = .ok (.if_icmp .ne 7, 3) := by decide +kernel
theorem dX7_isSoDanced_111 : decode cX7_isSoDanced 111 = .ok (.iconst 1, 1) := by decide +kernel
theorem dX7_isSoDanced_112 : decode cX7_isSoDanced 112 = .ok (.goto 4, 3) := by decide +kernel
theorem dX7_isSoDanced_115 : decode cX7_isSoDanced 115 = .ok (.iconst 0, 1) := by decide +kernel
theorem dX7_isSoDanced_116 : decode cX7_isSoDanced 116 = .ok (.istore 6, 2) := by decide +kernel
theorem dX7_isSoDanced_118 : decode cX7_isSoDanced 118 = .ok (.iinc 7 1, 3) := by decide +kernel
theorem dX7_isSoDanced_121 : decode cX7_isSoDanced 121 = .ok (.goto (-69), 3) := by decide +kernel
theorem dX7_isSoDanced_124 : decode cX7_isSoDanced 124 = .ok (.iload 6, 2) := by decide +kernel
theorem dX7_isSoDanced_126 : decode cX7_isSoDanced 126 = .ok (.ireturn, 1) := by decide +kernel
theorem dX7_whoDanced_0 : decode cX7_whoDanced 0 = .ok (.iload_n 1, 1) := by decide +kernel
theorem dX7_whoDanced_1 : decode cX7_whoDanced 1 = .ok (.invokestatic 250, 3) := by decide +kernel
theorem dX7_whoDanced_4 : decode cX7_whoDanced 4 = .ok (.ifCond .eq 12, 3) := by decide +kernel
theorem dX7_whoDanced_7 : decode cX7_whoDanced 7 = .ok (.iload_n 2, 1) := by decide +kernel
theorem dX7_whoDanced_8 : decode cX7_whoDanced 8 = .ok (.iconst 0, 1) := by decide +kernel
theorem dX7_whoDanced_9 : decode cX7_whoDanced 9 = .ok (.iconst 1, 1) := by decide +kernel
theorem dX7_whoDanced_10 : decode cX7_whoDanced 10 = .ok (.invokestatic 73, 3) := by decide +kernel
theorem dX7_whoDanced_13 : decode cX7_whoDanced 13 = .ok (.ifCond .ne 10, 3) := by decide +kernel
theorem dX7_whoDanced_16 : decode cX7_whoDanced 16 = .ok (.aload_n 0, 1) := by decide +kernel
theorem dX7_whoDanced_17 : decode cX7_whoDanced 17 = .ok (.ldc 77, 2) := by decide +kernel
theorem dX7_whoDanced_19 : decode cX7_whoDanced 19 = .ok (.invokevirtual 78, 3) := by decide +kernel
theorem dX7_whoDanced_22 : decode cX7_whoDanced 22 = .ok (.ireturn, 1) := by decide +kernel
theorem dX7_whoDanced_23 : decode cX7_whoDanced 23 = .ok (.aload_n 0, 1) := by decide +kernel
theorem dX7_whoDanced_24 : decode cX7_whoDanced 24 = .ok (.getfield 47, 3) := by decide +kernel
theorem dX7_whoDanced_27 : decode cX7_whoDanced 27 = .ok (.iload_n 1, 1) := by decide +kernel
theorem dX7_whoDanced_28 : decode cX7_whoDanced 28 = .ok (.iaload, 1) := by decide +kernel
theorem dX7_whoDanced_29 : decode cX7_whoDanced 29 = .ok (.ifCond .eq 18, 3) := by decide +kernel
theorem dX7_whoDanced_32 : decode cX7_whoDanced 32 = .ok (.aload_n 0, 1) := by decide +kernel
theorem dX7_whoDanced_33 : decode cX7_whoDanced 33 = .ok (.getfield 50, 3) := by decide +kernel
theorem dX7_whoDanced_36 : decode cX7_whoDanced 36 = .ok (.iload_n 1, 1) := by decide +kernel
theorem dX7_whoDanced_37 : decode cX7_whoDanced 37 = .ok (.iaload, 1) := by decide +kernel
theorem dX7_whoDanced_38 : decode cX7_whoDanced 38 = .ok (.aload_n 0, 1) := by decide +kernel
theorem dX7_whoDanced_39 : decode cX7_whoDanced 39 = .ok (.getfield 9, 3) := by decide +kernel
theorem dX7_whoDanced_42 : decode cX7_whoDanced 42 = .ok (.iconst 1, 1) := by decide +kernel
theorem dX7_whoDanced_43 : decode cX7_whoDanced 43 = .ok (.iaload, 1) := by decide +kernel
theorem dX7_whoDanced_44 : decode cX7_whoDanced 44 = .ok (.if_icmp .eq 10, 3) := by decide +kernel
theorem dX7_whoDanced_47 : decode cX7_whoDanced 47 = .ok (.aload_n 0, 1) := by decide +kernel
theorem dX7_whoDanced_48 : decode cX7_whoDanced 48 = .ok (.ldc 236, 2) := by decide +kernel
theorem dX7_whoDanced_50 : decode cX7_whoDanced 50 = .ok (.invokevirtual 78, 3) := by decide +kernel
theorem dX7_whoDanced_53 : decode cX7_whoDanced 53 = .ok (.ireturn, 1) := by decide +kernel
theorem dX7_whoDanced_54 : decode cX7_whoDanced 54 = .ok (.iconst 0, 1) := by decide +kernel
theorem dX7_whoDanced_55 : decode cX7_whoDanced 55 = .ok (.istore_n 3, 1) := by decide +kernel
theorem dX7_whoDanced_56 : decode cX7_whoDanced 56 = .ok (.iconst (-1), 1) := by decide +kernel
theorem dX7_whoDanced_57 : decode cX7_whoDanced 57 = .ok (.istore 4, 2) := by decide +kernel
theorem dX7_whoDanced_59 : decode cX7_whoDanced 59 = .ok (.iconst 0, 1) := by decide +kernel
theorem dX7_whoDanced_60 : decode cX7_whoDanced 60 = .ok (.istore 5, 2) := by decide +kernel
theorem dX7_whoDanced_62 : decode cX7_whoDanced 62 = .ok (.iload 5, 2) := by decide +kernel
theorem dX7_whoDanced_64 : decode cX7_whoDanced 64 = .ok (.aload_n 0, 1) := by decide +kernel
theorem dX7_whoDanced_65 : decode cX7_whoDanced 65 = .ok (.getfield 9, 3) := by decide +kernel
theorem dX7_whoDanced_68 : decode cX7_whoDanced 68 = .ok (.iconst 1, 1) := by decide +kernel
theorem dX7_whoDanced_69 : decode cX7_whoDanced 69 = .ok (.iaload, 1) := by decide +kernel
theorem dX7_whoDanced_70 : decode cX7_whoDanced 70 = .ok (.if_icmp .ge 81, 3) := by decide +kernel
theorem dX7_whoDanced_73 : decode cX7_whoDanced 73 = .ok (.iload 5, 2) := by decide +kernel
theorem dX7_whoDanced_75 : decode cX7_whoDanced 75 = .ok (.iconst 1, 1) := by decide +kernel
theorem dX7_whoDanced_76 : decode cX7_whoDanced 76 = .ok (.iadd, 1) := by decide +kernel
theorem dX7_whoDanced_77 : decode cX7_whoDanced 77 = .ok (.istore 6, 2) := by decide +kernel
theorem dX7_whoDanced_79 : decode cX7_whoDanced 79 = .ok (.iload 6, 2) := by decide +kernel
theorem dX7_whoDanced_81 : decode cX7_whoDanced 81 = .ok (.aload_n 0, 1) := by decide +kernel
theorem dX7_whoDanced_82 : decode cX7_whoDanced 82 = .ok (.getfield 9, 3) := by decide +kernel
theorem dX7_whoDanced_85 : decode cX7_whoDanced 85 = .ok (.iconst 1, 1) := by decide +kernel
theorem dX7_whoDanced_86 : decode cX7_whoDanced 86 = .ok (.iaload, 1) := by decide +kernel
theorem dX7_whoDanced_87 : decode cX7_whoDanced 87 = .ok (.if_icmp .ge 58, 3) := by decide +kernel
theorem dX7_whoDanced_90 : decode cX7_whoDanced 90 = .ok (.aload_n 0, 1) := by decide +kernel
theorem dX7_whoDanced_91 : decode cX7_whoDanced 91 = .ok (.iload_n 1, 1) := by decide +kernel
theorem dX7_whoDanced_92 : decode cX7_whoDanced 92 = .ok (.iload 5, 2) := by decide +kernel
theorem dX7_whoDanced_94 : decode cX7_whoDanced 94 = .ok (.iload 6, 2) := by decide +kernel
theorem dX7_whoDanced_96 : decode cX7_whoDanced 96 = .ok (.invokevirtual 253, 3) := by decide +kernel
theorem dX7_whoDanced_99 : decode cX7_whoDanced 99 = .ok (.istore 7, 2) := by decide +kernel
theorem dX7_whoDanced_101 : decode cX7_whoDanced 101 = .ok (.iload_n 3, 1) := by decide +kernel
theorem dX7_whoDanced_102 : decode cX7_whoDanced 102 = .ok (.iload 7, 2) := by decide +kernel
theorem dX7_whoDanced_104 : decode cX7_whoDanced 104 = .ok (.ifCond .eq 7, 3) := by decide +kernel
theorem dX7_whoDanced_107 : decode cX7_whoDanced 107 = .ok (.iconst 1, 1) := by decide +kernel
theorem dX7_whoDanced_108 : decode cX7_whoDanced 108 = .ok (.goto 4, 3) := by decide +kernel
theorem dX7_whoDanced_111 : decode cX7_whoDanced 111 = .ok (.iconst 0, 1) := by decide +kernel
theorem dX7_whoDanced_112 : decode cX7_whoDanced 112 = .ok (.iadd, 1) := by decide +kernel
theorem dX7_whoDanced_113 : decode cX7_whoDanced 113 = .ok (.istore_n 3, 1) := by decide +kernel
theorem dX7_whoDanced_114 : decode cX7_whoDanced 114 = .ok (.iload 7, 2) := by decide +kernel
theorem dX7_whoDanced_116 : decode cX7_whoDanced 116 = .ok (.ifCond .eq 19, 3) := by decide +kernel
theorem dX7_whoDanced_119 : decode cX7_whoDanced 119 = .ok (.iload 4, 2) := by decide +kernel
theorem dX7_whoDanced_121 : decode cX7_whoDanced 121 = .ok (.ifCond .ge 14, 3) := by decide +kernel
theorem dX7_whoDanced_124 : decode cX7_whoDanced 124 = .ok (.bipush 10, 2) := by decide +kernel
theorem dX7_whoDanced_126 : decode cX7_whoDanced 126 = .ok (.iload 5, 2) := by decide +kernel
theorem dX7_whoDanced_128 : decode cX7_whoDanced 128 = .ok (.imul, 1) := by decide +kernel
theorem dX7_whoDanced_129 : decode cX7_whoDanced 129 = .ok (.iload 6, 2) := by decide +kernel
theorem dX7_whoDanced_131 : decode cX7_whoDanced 131 = .ok (.iadd, 1) := by decide +kernel
theorem dX7_whoDanced_132 : decode cX7_whoDanced 132 = .ok (.goto 5, 3) := by decide +kernel
theorem dX7_whoDanced_135 : decode cX7_whoDanced 135 = .ok (.iload 4, 2) := by decide +kernel
theorem dX7_whoDanced_137 : decode cX7_whoDanced 137 = .ok (.istore 4, 2) := by decide +kernel
theorem dX7_whoDanced_139 : decode cX7_whoDanced 139 = .ok (.iinc 6 1, 3) := by decide +kernel
theorem dX7_whoDanced_142 : decode cX7_whoDanced 142 = .ok (.goto (-63), 3) := by decide +kernel
theorem dX7_whoDanced_145 : decode cX7_whoDanced 145 = .ok (.iinc 5 1, 3) := by decide +kernel
theorem dX7_whoDanced_148 : decode cX7_whoDanced 148 = .ok (.goto (-86), 3) := by decide +kernel
theorem dX7_whoDanced_151 : decode cX7_whoDanced 151 = .ok (.iload_n 2, 1) := by decide +kernel
theorem dX7_whoDanced_152 : decode cX7_whoDanced 152 = .ok (.ifCond .ne 7, 3) := by decide +kernel
theorem dX7_whoDanced_155 : decode cX7_whoDanced 155 = .ok (.iload_n 3, 1) := by decide +kernel
theorem dX7_whoDanced_156 : decode cX7_whoDanced 156 = .ok (.goto 19, 3) := by decide +kernel
theorem dX7_whoDanced_159 : decode cX7_whoDanced 159 = .ok (.iload 4, 2) := by decide +kernel
theorem dX7_whoDanced_161 : decode cX7_whoDanced 161 = .ok (.ifCond .ge 12, 3) := by decide +kernel
theorem dX7_whoDanced_164 : decode cX7_whoDanced 164 = .ok (.aload_n 0, 1) := by decide +kernel
theorem dX7_whoDanced_165 : decode cX7_whoDanced 165 = .ok (.ldc 236, 2) := by decide +kernel
theorem dX7_whoDanced_167 : decode cX7_whoDanced 167 = .ok (.invokevirtual 78, 3) := by decide +kernel
theorem dX7_whoDanced_170 : decode cX7_whoDanced 170 = .ok (.goto 5, 3) := by decide +kernel
theorem dX7_whoDanced_173 : decode cX7_whoDanced 173 = .ok (.iload 4, 2) := by decide +kernel
theorem dX7_whoDanced_175 : decode cX7_whoDanced 175 = .ok (.ireturn, 1) := by decide +kernel
theorem dX7_isRight_0 : decode cX7_isRight 0 = .ok (.iconst 1, 1) := by decide +kernel
theorem dX7_isRight_1 : decode cX7_isRight 1 = .ok (.istore_n 1, 1) := by decide +kernel
theorem dX7_isRight_2 : decode cX7_isRight 2 = .ok (.iconst 0, 1) := by decide +kernel
theorem dX7_isRight_3 : decode cX7_isRight 3 = .ok (.istore_n 2, 1) := by decide +kernel
theorem dX7_isRight_4 : decode cX7_isRight 4 = .ok (.iload_n 2, 1) := by decide +kernel
theorem dX7_isRight_5 : decode cX7_isRight 5 = .ok (.iconst 1, 1) := by decide +kernel
theorem dX7_isRight_6 : decode cX7_isRight 6 = .ok (.iadd, 1) := by decide +kernel
theorem dX7_isRight_7 : decode cX7_isRight 7 = .ok (.aload_n 0, 1) := by decide +kernel
theorem dX7_isRight_8 : decode cX7_isRight 8 = .ok (.getfield 9, 3) := by decide +kernel
theorem dX7_isRight_11 : decode cX7_isRight 11 = .ok (.iconst 1, 1) := by decide +kernel
theorem dX7_isRight_12 : decode cX7_isRight 12 = .ok (.iaload, 1) := by decide +kernel
theorem dX7_isRight_13 : decode cX7_isRight 13 = .ok (.if_icmp .ge 27, 3) := by decide +kernel
theorem dX7_isRight_16 : decode cX7_isRight 16 = .ok (.iload_n 1, 1) := by decide +kernel
theorem dX7_isRight_17 : decode cX7_isRight 17 = .ok (.ifCond .eq 15, 3) := by decide +kernel
theorem dX7_isRight_20 : decode cX7_isRight 20 = .ok (.aload_n 0, 1) := by decide +kernel
theorem dX7_isRight_21 : decode cX7_isRight 21 = .ok (.iload_n 2, 1) := by decide +kernel
theorem dX7_isRight_22 : decode cX7_isRight 22 = .ok (.invokevirtual 211, 3) := by decide +kernel
theorem dX7_isRight_25 : decode cX7_isRight 25 = .ok (.ifCond .ne 7, 3) := by decide +kernel
theorem dX7_isRight_28 : decode cX7_isRight 28 = .ok (.iconst 1, 1) := by decide +kernel
theorem dX7_isRight_29 : decode cX7_isRight 29 = .ok (.goto 4, 3) := by decide +kernel
theorem dX7_isRight_32 : decode cX7_isRight 32 = .ok (.iconst 0, 1) := by decide +kernel
theorem dX7_isRight_33 : decode cX7_isRight 33 = .ok (.istore_n 1, 1) := by decide +kernel
theorem dX7_isRight_34 : decode cX7_isRight 34 = .ok (.iinc 2 1, 3) := by decide +kernel
theorem dX7_isRight_37 : decode cX7_isRight 37 = .ok (.goto (-33), 3) := by decide +kernel
theorem dX7_isRight_40 : decode cX7_isRight 40 = .ok (.iload_n 1, 1) := by decide +kernel
theorem dX7_isRight_41 : decode cX7_isRight 41 = .ok (.ireturn, 1) := by decide +kernel
theorem dX7_inOrder_0 : decode cX7_inOrder 0 = .ok (.aload_n 0, 1) := by decide +kernel
theorem dX7_inOrder_1 : decode cX7_inOrder 1 = .ok (.getfield 9, 3) := by decide +kernel
theorem dX7_inOrder_4 : decode cX7_inOrder 4 = .ok (.aload_n 0, 1) := by decide +kernel
theorem dX7_inOrder_5 : decode cX7_inOrder 5 = .ok (.getfield 16, 3) := by decide +kernel
theorem dX7_inOrder_8 : decode cX7_inOrder 8 = .ok (.invokestatic 69, 3) := by decide +kernel
theorem dX7_inOrder_11 : decode cX7_inOrder 11 = .ok (.iconst 0, 1) := by decide +kernel
theorem dX7_inOrder_12 : decode cX7_inOrder 12 = .ok (.istore_n 1, 1) := by decide +kernel
theorem dX7_inOrder_13 : decode cX7_inOrder 13 = .ok (.iload_n 1, 1) := by decide +kernel
theorem dX7_inOrder_14 : decode cX7_inOrder 14 = .ok (.bipush 60, 2) := by decide +kernel
theorem dX7_inOrder_16 : decode cX7_inOrder 16 = .ok (.if_icmp .ge 20, 3) := by decide +kernel
theorem dX7_inOrder_19 : decode cX7_inOrder 19 = .ok (.aload_n 0, 1) := by decide +kernel
theorem dX7_inOrder_20 : decode cX7_inOrder 20 = .ok (.invokevirtual 256, 3) := by decide +kernel
theorem dX7_inOrder_23 : decode cX7_inOrder 23 = .ok (.ifCond .ne 13, 3) := by decide +kernel
theorem dX7_inOrder_26 : decode cX7_inOrder 26 = .ok (.aload_n 0, 1) := by decide +kernel
theorem dX7_inOrder_27 : decode cX7_inOrder 27 = .ok (.invokevirtual 214, 3) := by decide +kernel
theorem dX7_inOrder_30 : decode cX7_inOrder 30 = .ok (.iinc 1 1, 3) := by decide +kernel
theorem dX7_inOrder_33 : decode cX7_inOrder 33 = .ok (.goto (-20), 3) := by decide +kernel
theorem dX7_inOrder_36 : decode cX7_inOrder 36 = .ok (.aload_n 0, 1) := by decide +kernel
theorem dX7_inOrder_37 : decode cX7_inOrder 37 = .ok (.invokevirtual 256, 3) := by decide +kernel
theorem dX7_inOrder_40 : decode cX7_inOrder 40 = .ok (.istore_n 2, 1) := by decide +kernel
theorem dX7_inOrder_41 : decode cX7_inOrder 41 = .ok (.aload_n 0, 1) := by decide +kernel
theorem dX7_inOrder_42 : decode cX7_inOrder 42 = .ok (.getfield 16, 3) := by decide +kernel
theorem dX7_inOrder_45 : decode cX7_inOrder 45 = .ok (.aload_n 0, 1) := by decide +kernel
theorem dX7_inOrder_46 : decode cX7_inOrder 46 = .ok (.getfield 9, 3) := by decide +kernel
theorem dX7_inOrder_49 : decode cX7_inOrder 49 = .ok (.invokestatic 69, 3) := by decide +kernel
theorem dX7_inOrder_52 : decode cX7_inOrder 52 = .ok (.iload_n 2, 1) := by decide +kernel
theorem dX7_inOrder_53 : decode cX7_inOrder 53 = .ok (.ifCond .eq 7, 3) := by decide +kernel
theorem dX7_inOrder_56 : decode cX7_inOrder 56 = .ok (.iload_n 1, 1) := by decide +kernel
theorem dX7_inOrder_57 : decode cX7_inOrder 57 = .ok (.goto 9, 3) := by decide +kernel
theorem dX7_inOrder_60 : decode cX7_inOrder 60 = .ok (.aload_n 0, 1) := by decide +kernel
theorem dX7_inOrder_61 : decode cX7_inOrder 61 = .ok (.ldc 236, 2) := by decide +kernel
theorem dX7_inOrder_63 : decode cX7_inOrder 63 = .ok (.invokevirtual 78, 3) := by decide +kernel
theorem dX7_inOrder_66 : decode cX7_inOrder 66 = .ok (.ireturn, 1) := by decide +kernel
theorem dX7_wrongs_0 : decode cX7_wrongs 0 = .ok (.iconst 0, 1) := by decide +kernel
theorem dX7_wrongs_1 : decode cX7_wrongs 1 = .ok (.istore_n 1, 1) := by decide +kernel
theorem dX7_wrongs_2 : decode cX7_wrongs 2 = .ok (.iconst 0, 1) := by decide +kernel
theorem dX7_wrongs_3 : decode cX7_wrongs 3 = .ok (.istore_n 2, 1) := by decide +kernel
theorem dX7_wrongs_4 : decode cX7_wrongs 4 = .ok (.iload_n 2, 1) := by decide +kernel
theorem dX7_wrongs_5 : decode cX7_wrongs 5 = .ok (.aload_n 0, 1) := by decide +kernel
theorem dX7_wrongs_6 : decode cX7_wrongs 6 = .ok (.getfield 9, 3) := by decide +kernel
theorem dX7_wrongs_9 : decode cX7_wrongs 9 = .ok (.iconst 1, 1) := by decide +kernel
theorem dX7_wrongs_10 : decode cX7_wrongs 10 = .ok (.iaload, 1) := by decide +kernel
theorem dX7_wrongs_11 : decode cX7_wrongs 11 = .ok (.if_icmp .ge 64, 3) := by decide +kernel
theorem dX7_wrongs_14 : decode cX7_wrongs 14 = .ok (.iload_n 2, 1) := by decide +kernel
theorem dX7_wrongs_15 : decode cX7_wrongs 15 = .ok (.iconst 1, 1) := by decide +kernel
theorem dX7_wrongs_16 : decode cX7_wrongs 16 = .ok (.iadd, 1) := by decide +kernel
theorem dX7_wrongs_17 : decode cX7_wrongs 17 = .ok (.istore_n 3, 1) := by decide +kernel
theorem dX7_wrongs_18 : decode cX7_wrongs 18 = .ok (.iload_n 3, 1) := by decide +kernel
theorem dX7_wrongs_19 : decode cX7_wrongs 19 = .ok (.aload_n 0, 1) := by decide +kernel
theorem dX7_wrongs_20 : decode cX7_wrongs 20 = .ok (.getfield 9, 3) := by decide +kernel
theorem dX7_wrongs_23 : decode cX7_wrongs 23 = .ok (.iconst 1, 1) := by decide +kernel
theorem dX7_wrongs_24 : decode cX7_wrongs 24 = .ok (.iaload, 1) := by decide +kernel
theorem dX7_wrongs_25 : decode cX7_wrongs 25 = .ok (.if_icmp .ge 44, 3) := by decide +kernel
theorem dX7_wrongs_28 : decode cX7_wrongs 28 = .ok (.iload_n 1, 1) := by decide +kernel
theorem dX7_wrongs_29 : decode cX7_wrongs 29 = .ok (.aload_n 0, 1) := by decide +kernel
theorem dX7_wrongs_30 : decode cX7_wrongs 30 = .ok (.aload_n 0, 1) := by decide +kernel
theorem dX7_wrongs_31 : decode cX7_wrongs 31 = .ok (.getfield 9, 3) := by decide +kernel
theorem dX7_wrongs_34 : decode cX7_wrongs 34 = .ok (.iconst 5, 1) := by decide +kernel
theorem dX7_wrongs_35 : decode cX7_wrongs 35 = .ok (.iload_n 2, 1) := by decide +kernel
theorem dX7_wrongs_36 : decode cX7_wrongs 36 = .ok (.iadd, 1) := by decide +kernel
theorem dX7_wrongs_37 : decode cX7_wrongs 37 = .ok (.iaload, 1) := by decide +kernel
theorem dX7_wrongs_38 : decode cX7_wrongs 38 = .ok (.invokevirtual 197, 3) := by decide +kernel
theorem dX7_wrongs_41 : decode cX7_wrongs 41 = .ok (.aload_n 0, 1) := by decide +kernel
theorem dX7_wrongs_42 : decode cX7_wrongs 42 = .ok (.aload_n 0, 1) := by decide +kernel
theorem dX7_wrongs_43 : decode cX7_wrongs 43 = .ok (.getfield 9, 3) := by decide +kernel
theorem dX7_wrongs_46 : decode cX7_wrongs 46 = .ok (.iconst 5, 1) := by decide +kernel
theorem dX7_wrongs_47 : decode cX7_wrongs 47 = .ok (.iload_n 3, 1) := by decide +kernel
theorem dX7_wrongs_48 : decode cX7_wrongs 48 = .ok (.iadd, 1) := by decide +kernel
theorem dX7_wrongs_49 : decode cX7_wrongs 49 = .ok (.iaload, 1) := by decide +kernel
theorem dX7_wrongs_50 : decode cX7_wrongs 50 = .ok (.invokevirtual 197, 3) := by decide +kernel
theorem dX7_wrongs_53 : decode cX7_wrongs 53 = .ok (.if_icmp .le 7, 3) := by decide +kernel
theorem dX7_wrongs_56 : decode cX7_wrongs 56 = .ok (.iconst 1, 1) := by decide +kernel
theorem dX7_wrongs_57 : decode cX7_wrongs 57 = .ok (.goto 4, 3) := by decide +kernel
theorem dX7_wrongs_60 : decode cX7_wrongs 60 = .ok (.iconst 0, 1) := by decide +kernel
theorem dX7_wrongs_61 : decode cX7_wrongs 61 = .ok (.iadd, 1) := by decide +kernel
theorem dX7_wrongs_62 : decode cX7_wrongs 62 = .ok (.istore_n 1, 1) := by decide +kernel
theorem dX7_wrongs_63 : decode cX7_wrongs 63 = .ok (.iinc 3 1, 3) := by decide +kernel
theorem dX7_wrongs_66 : decode cX7_wrongs 66 = .ok (.goto (-48), 3) := by decide +kernel
theorem dX7_wrongs_69 : decode cX7_wrongs 69 = .ok (.iinc 2 1, 3) := by decide +kernel
theorem dX7_wrongs_72 : decode cX7_wrongs 72 = .ok (.goto (-68), 3) := by decide +kernel
theorem dX7_wrongs_75 : decode cX7_wrongs 75 = .ok (.iload_n 1, 1) := by decide +kernel
theorem dX7_wrongs_76 : decode cX7_wrongs 76 = .ok (.ireturn, 1) := by decide +kernel
theorem dX7_swap_0 : decode cX7_swap 0 = .ok (.iconst (-1), 1) := by decide +kernel
theorem dX7_swap_1 : decode cX7_swap 1 = .ok (.istore_n 1, 1) := by decide +kernel
theorem dX7_swap_2 : decode cX7_swap 2 = .ok (.aload_n 0, 1) := by decide +kernel
theorem dX7_swap_3 : decode cX7_swap 3 = .ok (.invokevirtual 260, 3) := by decide +kernel
theorem dX7_swap_6 : decode cX7_swap 6 = .ok (.istore_n 2, 1) := by decide +kernel
theorem dX7_swap_7 : decode cX7_swap 7 = .ok (.iconst 0, 1) := by decide +kernel
theorem dX7_swap_8 : decode cX7_swap 8 = .ok (.istore_n 3, 1) := by decide +kernel
theorem dX7_swap_9 : decode cX7_swap 9 = .ok (.iload_n 3, 1) := by decide +kernel
theorem dX7_swap_10 : decode cX7_swap 10 = .ok (.aload_n 0, 1) := by decide +kernel
theorem dX7_swap_11 : decode cX7_swap 11 = .ok (.getfield 9, 3) := by decide +kernel
theorem dX7_swap_14 : decode cX7_swap 14 = .ok (.iconst 1, 1) := by decide +kernel
theorem dX7_swap_15 : decode cX7_swap 15 = .ok (.iaload, 1) := by decide +kernel
theorem dX7_swap_16 : decode cX7_swap 16 = .ok (.if_icmp .ge 97, 3) := by decide +kernel
theorem dX7_swap_19 : decode cX7_swap 19 = .ok (.iload_n 3, 1) := by decide +kernel
theorem dX7_swap_20 : decode cX7_swap 20 = .ok (.iconst 1, 1) := by decide +kernel
theorem dX7_swap_21 : decode cX7_swap 21 = .ok (.iadd, 1) := by decide +kernel
theorem dX7_swap_22 : decode cX7_swap 22 = .ok (.istore 4, 2) := by decide +kernel
theorem dX7_swap_24 : decode cX7_swap 24 = .ok (.iload 4, 2) := by decide +kernel
theorem dX7_swap_26 : decode cX7_swap 26 = .ok (.aload_n 0, 1) := by decide +kernel
theorem dX7_swap_27 : decode cX7_swap 27 = .ok (.getfield 9, 3) := by decide +kernel
theorem dX7_swap_30 : decode cX7_swap 30 = .ok (.iconst 1, 1) := by decide +kernel
theorem dX7_swap_31 : decode cX7_swap 31 = .ok (.iaload, 1) := by decide +kernel
theorem dX7_swap_32 : decode cX7_swap 32 = .ok (.if_icmp .ge 75, 3) := by decide +kernel
theorem dX7_swap_35 : decode cX7_swap 35 = .ok (.aload_n 0, 1) := by decide +kernel
theorem dX7_swap_36 : decode cX7_swap 36 = .ok (.iload_n 3, 1) := by decide +kernel
theorem dX7_swap_37 : decode cX7_swap 37 = .ok (.invokevirtual 180, 3) := by decide +kernel
theorem dX7_swap_40 : decode cX7_swap 40 = .ok (.istore 5, 2) := by decide +kernel
theorem dX7_swap_42 : decode cX7_swap 42 = .ok (.aload_n 0, 1) := by decide +kernel
theorem dX7_swap_43 : decode cX7_swap 43 = .ok (.iload 4, 2) := by decide +kernel
theorem dX7_swap_45 : decode cX7_swap 45 = .ok (.invokevirtual 180, 3) := by decide +kernel
theorem dX7_swap_48 : decode cX7_swap 48 = .ok (.istore 6, 2) := by decide +kernel
theorem dX7_swap_50 : decode cX7_swap 50 = .ok (.aload_n 0, 1) := by decide +kernel
theorem dX7_swap_51 : decode cX7_swap 51 = .ok (.iload 5, 2) := by decide +kernel
theorem dX7_swap_53 : decode cX7_swap 53 = .ok (.iload 6, 2) := by decide +kernel
theorem dX7_swap_55 : decode cX7_swap 55 = .ok (.invokevirtual 189, 3) := by decide +kernel
theorem dX7_swap_58 : decode cX7_swap 58 = .ok (.istore 7, 2) := by decide +kernel
theorem dX7_swap_60 : decode cX7_swap 60 = .ok (.aload_n 0, 1) := by decide +kernel
theorem dX7_swap_61 : decode cX7_swap 61 = .ok (.invokevirtual 260, 3) := by decide +kernel
theorem dX7_swap_64 : decode cX7_swap 64 = .ok (.istore 8, 2) := by decide +kernel
theorem dX7_swap_66 : decode cX7_swap 66 = .ok (.aload_n 0, 1) := by decide +kernel
theorem dX7_swap_67 : decode cX7_swap 67 = .ok (.iload 5, 2) := by decide +kernel
theorem dX7_swap_69 : decode cX7_swap 69 = .ok (.iload 6, 2) := by decide +kernel
theorem dX7_swap_71 : decode cX7_swap 71 = .ok (.invokevirtual 189, 3) := by decide +kernel
theorem dX7_swap_74 : decode cX7_swap 74 = .ok (.istore 7, 2) := by decide +kernel
theorem dX7_swap_76 : decode cX7_swap 76 = .ok (.iload 8, 2) := by decide +kernel
theorem dX7_swap_78 : decode cX7_swap 78 = .ok (.iload_n 2, 1) := by decide +kernel
theorem dX7_swap_79 : decode cX7_swap 79 = .ok (.if_icmp .ge 13, 3) := by decide +kernel
theorem dX7_swap_82 : decode cX7_swap 82 = .ok (.bipush 10, 2) := by decide +kernel
theorem dX7_swap_84 : decode cX7_swap 84 = .ok (.iload_n 3, 1) := by decide +kernel
theorem dX7_swap_85 : decode cX7_swap 85 = .ok (.imul, 1) := by decide +kernel
theorem dX7_swap_86 : decode cX7_swap 86 = .ok (.iload 4, 2) := by decide +kernel
theorem dX7_swap_88 : decode cX7_swap 88 = .ok (.iadd, 1) := by decide +kernel
theorem dX7_swap_89 : decode cX7_swap 89 = .ok (.goto 4, 3) := by decide +kernel
theorem dX7_swap_92 : decode cX7_swap 92 = .ok (.iload_n 1, 1) := by decide +kernel
theorem dX7_swap_93 : decode cX7_swap 93 = .ok (.istore_n 1, 1) := by decide +kernel
theorem dX7_swap_94 : decode cX7_swap 94 = .ok (.iload_n 2, 1) := by decide +kernel
theorem dX7_swap_95 : decode cX7_swap 95 = .ok (.iload 8, 2) := by decide +kernel
theorem dX7_swap_97 : decode cX7_swap 97 = .ok (.invokestatic 60, 3) := by decide +kernel
theorem dX7_swap_100 : decode cX7_swap 100 = .ok (.istore_n 2, 1) := by decide +kernel
theorem dX7_swap_101 : decode cX7_swap 101 = .ok (.iinc 4 1, 3) := by decide +kernel
theorem dX7_swap_104 : decode cX7_swap 104 = .ok (.goto (-80), 3) := by decide +kernel
theorem dX7_swap_107 : decode cX7_swap 107 = .ok (.iinc 3 1, 3) := by decide +kernel
theorem dX7_swap_110 : decode cX7_swap 110 = .ok (.goto (-101), 3) := by decide +kernel
theorem dX7_swap_113 : decode cX7_swap 113 = .ok (.iload_n 1, 1) := by decide +kernel
theorem dX7_swap_114 : decode cX7_swap 114 = .ok (.ireturn, 1) := by decide +kernel
theorem dX7_go_0 : decode cX7_go 0 = .ok (.aload_n 0, 1) := by decide +kernel
theorem dX7_go_1 : decode cX7_go 1 = .ok (.iload_n 1, 1) := by decide +kernel
theorem dX7_go_2 : decode cX7_go 2 = .ok (.invokevirtual 159, 3) := by decide +kernel
theorem dX7_go_5 : decode cX7_go 5 = .ok (.ifCond .eq 10, 3) := by decide +kernel
theorem dX7_go_8 : decode cX7_go 8 = .ok (.iload_n 2, 1) := by decide +kernel
theorem dX7_go_9 : decode cX7_go 9 = .ok (.invokestatic 237, 3) := by decide +kernel
theorem dX7_go_12 : decode cX7_go 12 = .ok (.ifCond .ne 10, 3) := by decide +kernel
theorem dX7_go_15 : decode cX7_go 15 = .ok (.aload_n 0, 1) := by decide +kernel
theorem dX7_go_16 : decode cX7_go 16 = .ok (.ldc 77, 2) := by decide +kernel
theorem dX7_go_18 : decode cX7_go 18 = .ok (.invokevirtual 78, 3) := by decide +kernel
theorem dX7_go_21 : decode cX7_go 21 = .ok (.ireturn, 1) := by decide +kernel
theorem dX7_go_22 : decode cX7_go 22 = .ok (.iconst (-1), 1) := by decide +kernel
theorem dX7_go_23 : decode cX7_go 23 = .ok (.istore_n 3, 1) := by decide +kernel
theorem dX7_go_24 : decode cX7_go 24 = .ok (.bipush 7, 2) := by decide +kernel
theorem dX7_go_26 : decode cX7_go 26 = .ok (.istore 4, 2) := by decide +kernel
theorem dX7_go_28 : decode cX7_go 28 = .ok (.iconst 0, 1) := by decide +kernel
theorem dX7_go_29 : decode cX7_go 29 = .ok (.istore 5, 2) := by decide +kernel
theorem dX7_go_31 : decode cX7_go 31 = .ok (.iload 5, 2) := by decide +kernel
theorem dX7_go_33 : decode cX7_go 33 = .ok (.aload_n 0, 1) := by decide +kernel
theorem dX7_go_34 : decode cX7_go 34 = .ok (.getfield 9, 3) := by decide +kernel
theorem dX7_go_37 : decode cX7_go 37 = .ok (.iconst 1, 1) := by decide +kernel
theorem dX7_go_38 : decode cX7_go 38 = .ok (.iaload, 1) := by decide +kernel
theorem dX7_go_39 : decode cX7_go 39 = .ok (.if_icmp .ge 77, 3) := by decide +kernel
theorem dX7_go_42 : decode cX7_go 42 = .ok (.iload 5, 2) := by decide +kernel
theorem dX7_go_44 : decode cX7_go 44 = .ok (.iload_n 1, 1) := by decide +kernel
theorem dX7_go_45 : decode cX7_go 45 = .ok (.if_icmp .eq 65, 3) := by decide +kernel
theorem dX7_go_48 : decode cX7_go 48 = .ok (.aload_n 0, 1) := by decide +kernel
theorem dX7_go_49 : decode cX7_go 49 = .ok (.getfield 9, 3) := by decide +kernel
theorem dX7_go_52 : decode cX7_go 52 = .ok (.aload_n 0, 1) := by decide +kernel
theorem dX7_go_53 : decode cX7_go 53 = .ok (.getfield 16, 3) := by decide +kernel
theorem dX7_go_56 : decode cX7_go 56 = .ok (.invokestatic 69, 3) := by decide +kernel
theorem dX7_go_59 : decode cX7_go 59 = .ok (.aload_n 0, 1) := by decide +kernel
theorem dX7_go_60 : decode cX7_go 60 = .ok (.getfield 9, 3) := by decide +kernel
theorem dX7_go_63 : decode cX7_go 63 = .ok (.iload 5, 2) := by decide +kernel
theorem dX7_go_65 : decode cX7_go 65 = .ok (.iconst 2, 1) := by decide +kernel
theorem dX7_go_66 : decode cX7_go 66 = .ok (.invokestatic 162, 3) := by decide +kernel
theorem dX7_go_69 : decode cX7_go 69 = .ok (.iconst 0, 1) := by decide +kernel
theorem dX7_go_70 : decode cX7_go 70 = .ok (.iastore, 1) := by decide +kernel
theorem dX7_go_71 : decode cX7_go 71 = .ok (.aload_n 0, 1) := by decide +kernel
theorem dX7_go_72 : decode cX7_go 72 = .ok (.iload_n 2, 1) := by decide +kernel
theorem dX7_go_73 : decode cX7_go 73 = .ok (.invokevirtual 217, 3) := by decide +kernel
theorem dX7_go_76 : decode cX7_go 76 = .ok (.aload_n 0, 1) := by decide +kernel
theorem dX7_go_77 : decode cX7_go 77 = .ok (.aload_n 0, 1) := by decide +kernel
theorem dX7_go_78 : decode cX7_go 78 = .ok (.iload_n 1, 1) := by decide +kernel
theorem dX7_go_79 : decode cX7_go 79 = .ok (.invokevirtual 180, 3) := by decide +kernel
theorem dX7_go_82 : decode cX7_go 82 = .ok (.invokevirtual 233, 3) := by decide +kernel
theorem dX7_go_85 : decode cX7_go 85 = .ok (.istore 6, 2) := by decide +kernel
theorem dX7_go_87 : decode cX7_go 87 = .ok (.iload 6, 2) := by decide +kernel
theorem dX7_go_89 : decode cX7_go 89 = .ok (.iload 4, 2) := by decide +kernel
theorem dX7_go_91 : decode cX7_go 91 = .ok (.if_icmp .ge 8, 3) := by decide +kernel
theorem dX7_go_94 : decode cX7_go 94 = .ok (.iload 5, 2) := by decide +kernel
theorem dX7_go_96 : decode cX7_go 96 = .ok (.goto 4, 3) := by decide +kernel
theorem dX7_go_99 : decode cX7_go 99 = .ok (.iload_n 3, 1) := by decide +kernel
theorem dX7_go_100 : decode cX7_go 100 = .ok (.istore_n 3, 1) := by decide +kernel
theorem dX7_go_101 : decode cX7_go 101 = .ok (.iload 4, 2) := by decide +kernel
theorem dX7_go_103 : decode cX7_go 103 = .ok (.iload 6, 2) := by decide +kernel
theorem dX7_go_105 : decode cX7_go 105 = .ok (.invokestatic 60, 3) := by decide +kernel
theorem dX7_go_108 : decode cX7_go 108 = .ok (.istore 4, 2) := by decide +kernel
theorem dX7_go_110 : decode cX7_go 110 = .ok (.iinc 5 1, 3) := by decide +kernel
theorem dX7_go_113 : decode cX7_go 113 = .ok (.goto (-82), 3) := by decide +kernel
theorem dX7_go_116 : decode cX7_go 116 = .ok (.iload_n 3, 1) := by decide +kernel
theorem dX7_go_117 : decode cX7_go 117 = .ok (.ifCond .ge 12, 3) := by decide +kernel
theorem dX7_go_120 : decode cX7_go 120 = .ok (.aload_n 0, 1) := by decide +kernel
theorem dX7_go_121 : decode cX7_go 121 = .ok (.ldc 236, 2) := by decide +kernel
theorem dX7_go_123 : decode cX7_go 123 = .ok (.invokevirtual 78, 3) := by decide +kernel
theorem dX7_go_126 : decode cX7_go 126 = .ok (.goto 4, 3) := by decide +kernel
theorem dX7_go_129 : decode cX7_go 129 = .ok (.iload_n 3, 1) := by decide +kernel
theorem dX7_go_130 : decode cX7_go 130 = .ok (.ireturn, 1) := by decide +kernel
theorem dX7_allRue_0 : decode cX7_allRue 0 = .ok (.iload_n 1, 1) := by decide +kernel
theorem dX7_allRue_1 : decode cX7_allRue 1 = .ok (.invokestatic 230, 3) := by decide +kernel
theorem dX7_allRue_4 : decode cX7_allRue 4 = .ok (.ifCond .ne 10, 3) := by decide +kernel
theorem dX7_allRue_7 : decode cX7_allRue 7 = .ok (.aload_n 0, 1) := by decide +kernel
theorem dX7_allRue_8 : decode cX7_allRue 8 = .ok (.ldc 77, 2) := by decide +kernel
theorem dX7_allRue_10 : decode cX7_allRue 10 = .ok (.invokevirtual 78, 3) := by decide +kernel
theorem dX7_allRue_13 : decode cX7_allRue 13 = .ok (.ireturn, 1) := by decide +kernel
theorem dX7_allRue_14 : decode cX7_allRue 14 = .ok (.aload_n 0, 1) := by decide +kernel
theorem dX7_allRue_15 : decode cX7_allRue 15 = .ok (.getfield 9, 3) := by decide +kernel
theorem dX7_allRue_18 : decode cX7_allRue 18 = .ok (.aload_n 0, 1) := by decide +kernel
theorem dX7_allRue_19 : decode cX7_allRue 19 = .ok (.getfield 16, 3) := by decide +kernel
theorem dX7_allRue_22 : decode cX7_allRue 22 = .ok (.invokestatic 69, 3) := by decide +kernel
theorem dX7_allRue_25 : decode cX7_allRue 25 = .ok (.aload_n 0, 1) := by decide +kernel
theorem dX7_allRue_26 : decode cX7_allRue 26 = .ok (.iload_n 1, 1) := by decide +kernel
theorem dX7_allRue_27 : decode cX7_allRue 27 = .ok (.invokevirtual 217, 3) := by decide +kernel
theorem dX7_allRue_30 : decode cX7_allRue 30 = .ok (.aload_n 0, 1) := by decide +kernel
theorem dX7_allRue_31 : decode cX7_allRue 31 = .ok (.aload_n 0, 1) := by decide +kernel
theorem dX7_allRue_32 : decode cX7_allRue 32 = .ok (.iconst 2, 1) := by decide +kernel
theorem dX7_allRue_33 : decode cX7_allRue 33 = .ok (.invokevirtual 220, 3) := by decide +kernel
theorem dX7_allRue_36 : decode cX7_allRue 36 = .ok (.invokevirtual 233, 3) := by decide +kernel
theorem dX7_allRue_39 : decode cX7_allRue 39 = .ok (.ireturn, 1) := by decide +kernel
theorem dX7_sorriest_0 : decode cX7_sorriest 0 = .ok (.iload_n 1, 1) := by decide +kernel
theorem dX7_sorriest_1 : decode cX7_sorriest 1 = .ok (.invokestatic 230, 3) := by decide +kernel
theorem dX7_sorriest_4 : decode cX7_sorriest 4 = .ok (.ifCond .eq 12, 3) := by decide +kernel
theorem dX7_sorriest_7 : decode cX7_sorriest 7 = .ok (.iload_n 2, 1) := by decide +kernel
theorem dX7_sorriest_8 : decode cX7_sorriest 8 = .ok (.iconst 0, 1) := by decide +kernel
theorem dX7_sorriest_9 : decode cX7_sorriest 9 = .ok (.iconst 1, 1) := by decide +kernel
theorem dX7_sorriest_10 : decode cX7_sorriest 10 = .ok (.invokestatic 73, 3) := by decide +kernel
theorem dX7_sorriest_13 : decode cX7_sorriest 13 = .ok (.ifCond .ne 10, 3) := by decide +kernel
theorem dX7_sorriest_16 : decode cX7_sorriest 16 = .ok (.aload_n 0, 1) := by decide +kernel
theorem dX7_sorriest_17 : decode cX7_sorriest 17 = .ok (.ldc 77, 2) := by decide +kernel
theorem dX7_sorriest_19 : decode cX7_sorriest 19 = .ok (.invokevirtual 78, 3) := by decide +kernel
theorem dX7_sorriest_22 : decode cX7_sorriest 22 = .ok (.ireturn, 1) := by decide +kernel
theorem dX7_sorriest_23 : decode cX7_sorriest 23 = .ok (.aload_n 0, 1) := by decide +kernel
theorem dX7_sorriest_24 : decode cX7_sorriest 24 = .ok (.getfield 9, 3) := by decide +kernel
theorem dX7_sorriest_27 : decode cX7_sorriest 27 = .ok (.iconst 1, 1) := by decide +kernel
theorem dX7_sorriest_28 : decode cX7_sorriest 28 = .ok (.iaload, 1) := by decide +kernel
theorem dX7_sorriest_29 : decode cX7_sorriest 29 = .ok (.ifCond .ne 10, 3) := by decide +kernel
theorem dX7_sorriest_32 : decode cX7_sorriest 32 = .ok (.aload_n 0, 1) := by decide +kernel
theorem dX7_sorriest_33 : decode cX7_sorriest 33 = .ok (.ldc 236, 2) := by decide +kernel
theorem dX7_sorriest_35 : decode cX7_sorriest 35 = .ok (.invokevirtual 78, 3) := by decide +kernel
theorem dX7_sorriest_38 : decode cX7_sorriest 38 = .ok (.ireturn, 1) := by decide +kernel
theorem dX7_sorriest_39 : decode cX7_sorriest 39 = .ok (.aload_n 0, 1) := by decide +kernel
theorem dX7_sorriest_40 : decode cX7_sorriest 40 = .ok (.getfield 9, 3) := by decide +kernel
theorem dX7_sorriest_43 : decode cX7_sorriest 43 = .ok (.aload_n 0, 1) := by decide +kernel
theorem dX7_sorriest_44 : decode cX7_sorriest 44 = .ok (.getfield 16, 3) := by decide +kernel
theorem dX7_sorriest_47 : decode cX7_sorriest 47 = .ok (.invokestatic 69, 3) := by decide +kernel
theorem dX7_sorriest_50 : decode cX7_sorriest 50 = .ok (.aload_n 0, 1) := by decide +kernel
theorem dX7_sorriest_51 : decode cX7_sorriest 51 = .ok (.iload_n 1, 1) := by decide +kernel
theorem dX7_sorriest_52 : decode cX7_sorriest 52 = .ok (.invokevirtual 217, 3) := by decide +kernel
theorem dX7_sorriest_55 : decode cX7_sorriest 55 = .ok (.iconst 0, 1) := by decide +kernel
theorem dX7_sorriest_56 : decode cX7_sorriest 56 = .ok (.istore_n 3, 1) := by decide +kernel
theorem dX7_sorriest_57 : decode cX7_sorriest 57 = .ok (.iconst 1, 1) := by decide +kernel
theorem dX7_sorriest_58 : decode cX7_sorriest 58 = .ok (.istore 4, 2) := by decide +kernel
theorem dX7_sorriest_60 : decode cX7_sorriest 60 = .ok (.iload 4, 2) := by decide +kernel
theorem dX7_sorriest_62 : decode cX7_sorriest 62 = .ok (.aload_n 0, 1) := by decide +kernel
theorem dX7_sorriest_63 : decode cX7_sorriest 63 = .ok (.getfield 9, 3) := by decide +kernel
theorem dX7_sorriest_66 : decode cX7_sorriest 66 = .ok (.iconst 1, 1) := by decide +kernel
theorem dX7_sorriest_67 : decode cX7_sorriest 67 = .ok (.iaload, 1) := by decide +kernel
theorem dX7_sorriest_68 : decode cX7_sorriest 68 = .ok (.if_icmp .ge 30, 3) := by decide +kernel
theorem dX7_sorriest_71 : decode cX7_sorriest 71 = .ok (.aload_n 0, 1) := by decide +kernel
theorem dX7_sorriest_72 : decode cX7_sorriest 72 = .ok (.iload 4, 2) := by decide +kernel
theorem dX7_sorriest_74 : decode cX7_sorriest 74 = .ok (.invokevirtual 197, 3) := by decide +kernel
theorem dX7_sorriest_77 : decode cX7_sorriest 77 = .ok (.aload_n 0, 1) := by decide +kernel
theorem dX7_sorriest_78 : decode cX7_sorriest 78 = .ok (.iload_n 3, 1) := by decide +kernel
theorem dX7_sorriest_79 : decode cX7_sorriest 79 = .ok (.invokevirtual 197, 3) := by decide +kernel
theorem dX7_sorriest_82 : decode cX7_sorriest 82 = .ok (.if_icmp .le 8, 3) := by decide +kernel
theorem dX7_sorriest_85 : decode cX7_sorriest 85 = .ok (.iload 4, 2) := by decide +kernel
theorem dX7_sorriest_87 : decode cX7_sorriest 87 = .ok (.goto 4, 3) := by decide +kernel
theorem dX7_sorriest_90 : decode cX7_sorriest 90 = .ok (.iload_n 3, 1) := by decide +kernel
theorem dX7_sorriest_91 : decode cX7_sorriest 91 = .ok (.istore_n 3, 1) := by decide +kernel
theorem dX7_sorriest_92 : decode cX7_sorriest 92 = .ok (.iinc 4 1, 3) := by decide +kernel
theorem dX7_sorriest_95 : decode cX7_sorriest 95 = .ok (.goto (-35), 3) := by decide +kernel
theorem dX7_sorriest_98 : decode cX7_sorriest 98 = .ok (.aload_n 0, 1) := by decide +kernel
theorem dX7_sorriest_99 : decode cX7_sorriest 99 = .ok (.iload_n 2, 1) := by decide +kernel
theorem dX7_sorriest_100 : decode cX7_sorriest 100 = .ok (.ifCond .ne 7, 3) := by decide +kernel
theorem dX7_sorriest_103 : decode cX7_sorriest 103 = .ok (.iload_n 3, 1) := by decide +kernel
theorem dX7_sorriest_104 : decode cX7_sorriest 104 = .ok (.goto 8, 3) := by decide +kernel
theorem dX7_sorriest_107 : decode cX7_sorriest 107 = .ok (.aload_n 0, 1) := by decide +kernel
theorem dX7_sorriest_108 : decode cX7_sorriest 108 = .ok (.iload_n 3, 1) := by decide +kernel
theorem dX7_sorriest_109 : decode cX7_sorriest 109 = .ok (.invokevirtual 197, 3) := by decide +kernel
theorem dX7_sorriest_112 : decode cX7_sorriest 112 = .ok (.invokevirtual 233, 3) := by decide +kernel
theorem dX7_sorriest_115 : decode cX7_sorriest 115 = .ok (.ireturn, 1) := by decide +kernel
theorem dX7_odds_0 : decode cX7_odds 0 = .ok (.aload_n 0, 1) := by decide +kernel
theorem dX7_odds_1 : decode cX7_odds 1 = .ok (.iload_n 1, 1) := by decide +kernel
theorem dX7_odds_2 : decode cX7_odds 2 = .ok (.invokevirtual 159, 3) := by decide +kernel
theorem dX7_odds_5 : decode cX7_odds 5 = .ok (.ifCond .eq 28, 3) := by decide +kernel
theorem dX7_odds_8 : decode cX7_odds 8 = .ok (.aload_n 0, 1) := by decide +kernel
theorem dX7_odds_9 : decode cX7_odds 9 = .ok (.iload_n 2, 1) := by decide +kernel
theorem dX7_odds_10 : decode cX7_odds 10 = .ok (.invokevirtual 159, 3) := by decide +kernel
theorem dX7_odds_13 : decode cX7_odds 13 = .ok (.ifCond .eq 20, 3) := by decide +kernel
theorem dX7_odds_16 : decode cX7_odds 16 = .ok (.iload_n 3, 1) := by decide +kernel
theorem dX7_odds_17 : decode cX7_odds 17 = .ok (.invokestatic 230, 3) := by decide +kernel
theorem dX7_odds_20 : decode cX7_odds 20 = .ok (.ifCond .eq 13, 3) := by decide +kernel
theorem dX7_odds_23 : decode cX7_odds 23 = .ok (.iload 4, 2) := by decide +kernel
theorem dX7_odds_25 : decode cX7_odds 25 = .ok (.iconst 0, 1) := by decide +kernel
theorem dX7_odds_26 : decode cX7_odds 26 = .ok (.iconst 1, 1) := by decide +kernel
theorem dX7_odds_27 : decode cX7_odds 27 = .ok (.invokestatic 73, 3) := by decide +kernel
theorem dX7_odds_30 : decode cX7_odds 30 = .ok (.ifCond .ne 10, 3) := by decide +kernel
theorem dX7_odds_33 : decode cX7_odds 33 = .ok (.aload_n 0, 1) := by decide +kernel
theorem dX7_odds_34 : decode cX7_odds 34 = .ok (.ldc 77, 2) := by decide +kernel
theorem dX7_odds_36 : decode cX7_odds 36 = .ok (.invokevirtual 78, 3) := by decide +kernel
theorem dX7_odds_39 : decode cX7_odds 39 = .ok (.ireturn, 1) := by decide +kernel
theorem dX7_odds_40 : decode cX7_odds 40 = .ok (.aload_n 0, 1) := by decide +kernel
theorem dX7_odds_41 : decode cX7_odds 41 = .ok (.getfield 9, 3) := by decide +kernel
theorem dX7_odds_44 : decode cX7_odds 44 = .ok (.iconst 1, 1) := by decide +kernel
theorem dX7_odds_45 : decode cX7_odds 45 = .ok (.iaload, 1) := by decide +kernel
theorem dX7_odds_46 : decode cX7_odds 46 = .ok (.iconst 1, 1) := by decide +kernel
theorem dX7_odds_47 : decode cX7_odds 47 = .ok (.isub, 1) := by decide +kernel
theorem dX7_odds_48 : decode cX7_odds 48 = .ok (.istore 5, 2) := by decide +kernel
theorem dX7_odds_50 : decode cX7_odds 50 = .ok (.iload 5, 2) := by decide +kernel
theorem dX7_odds_52 : decode cX7_odds 52 = .ok (.ifCond .ne 10, 3) := by decide +kernel
theorem dX7_odds_55 : decode cX7_odds 55 = .ok (.aload_n 0, 1) := by decide +kernel
theorem dX7_odds_56 : decode cX7_odds 56 = .ok (.ldc 236, 2) := by decide +kernel
theorem dX7_odds_58 : decode cX7_odds 58 = .ok (.invokevirtual 78, 3) := by decide +kernel
theorem dX7_odds_61 : decode cX7_odds 61 = .ok (.ireturn, 1) := by decide +kernel
theorem dX7_odds_62 : decode cX7_odds 62 = .ok (.iconst 0, 1) := by decide +kernel
theorem dX7_odds_63 : decode cX7_odds 63 = .ok (.istore 6, 2) := by decide +kernel
theorem dX7_odds_65 : decode cX7_odds 65 = .ok (.iconst 0, 1) := by decide +kernel
theorem dX7_odds_66 : decode cX7_odds 66 = .ok (.istore 7, 2) := by decide +kernel
theorem dX7_odds_68 : decode cX7_odds 68 = .ok (.iload 7, 2) := by decide +kernel
theorem dX7_odds_70 : decode cX7_odds 70 = .ok (.iload 5, 2) := by decide +kernel
theorem dX7_odds_72 : decode cX7_odds 72 = .ok (.if_icmp .gt 37, 3) := by decide +kernel
theorem dX7_odds_75 : decode cX7_odds 75 = .ok (.iload 6, 2) := by decide +kernel
theorem dX7_odds_77 : decode cX7_odds 77 = .ok (.iload 7, 2) := by decide +kernel
theorem dX7_odds_79 : decode cX7_odds 79 = .ok (.iload_n 1, 1) := by decide +kernel
theorem dX7_odds_80 : decode cX7_odds 80 = .ok (.if_icmp .eq 19, 3) := by decide +kernel
theorem dX7_odds_83 : decode cX7_odds 83 = .ok (.aload_n 0, 1) := by decide +kernel
theorem dX7_odds_84 : decode cX7_odds 84 = .ok (.iload_n 1, 1) := by decide +kernel
theorem dX7_odds_85 : decode cX7_odds 85 = .ok (.iload 7, 2) := by decide +kernel
theorem dX7_odds_87 : decode cX7_odds 87 = .ok (.iload_n 3, 1) := by decide +kernel
theorem dX7_odds_88 : decode cX7_odds 88 = .ok (.invokevirtual 240, 3) := by decide +kernel
theorem dX7_odds_91 : decode cX7_odds 91 = .ok (.iload_n 2, 1) := by decide +kernel
theorem dX7_odds_92 : decode cX7_odds 92 = .ok (.if_icmp .gt 7, 3) := by decide +kernel
theorem dX7_odds_95 : decode cX7_odds 95 = .ok (.iconst 1, 1) := by decide +kernel
theorem dX7_odds_96 : decode cX7_odds 96 = .ok (.goto 4, 3) := by decide +kernel
theorem dX7_odds_99 : decode cX7_odds 99 = .ok (.iconst 0, 1) := by decide +kernel
theorem dX7_odds_100 : decode cX7_odds 100 = .ok (.iadd, 1) := by decide +kernel
theorem dX7_odds_101 : decode cX7_odds 101 = .ok (.istore 6, 2) := by decide +kernel
theorem dX7_odds_103 : decode cX7_odds 103 = .ok (.iinc 7 1, 3) := by decide +kernel
theorem dX7_odds_106 : decode cX7_odds 106 = .ok (.goto (-38), 3) := by decide +kernel
theorem dX7_odds_109 : decode cX7_odds 109 = .ok (.iload 5, 2) := by decide +kernel
theorem dX7_odds_111 : decode cX7_odds 111 = .ok (.istore 7, 2) := by decide +kernel
theorem dX7_odds_113 : decode cX7_odds 113 = .ok (.iload 6, 2) := by decide +kernel
theorem dX7_odds_115 : decode cX7_odds 115 = .ok (.istore 8, 2) := by decide +kernel
theorem dX7_odds_117 : decode cX7_odds 117 = .ok (.iload 8, 2) := by decide +kernel
theorem dX7_odds_119 : decode cX7_odds 119 = .ok (.ifCond .eq 21, 3) := by decide +kernel
theorem dX7_odds_122 : decode cX7_odds 122 = .ok (.iload 7, 2) := by decide +kernel
theorem dX7_odds_124 : decode cX7_odds 124 = .ok (.iload 8, 2) := by decide +kernel
theorem dX7_odds_126 : decode cX7_odds 126 = .ok (.irem, 1) := by decide +kernel
theorem dX7_odds_127 : decode cX7_odds 127 = .ok (.istore 9, 2) := by decide +kernel
theorem dX7_odds_129 : decode cX7_odds 129 = .ok (.iload 8, 2) := by decide +kernel
theorem dX7_odds_131 : decode cX7_odds 131 = .ok (.istore 7, 2) := by decide +kernel
theorem dX7_odds_133 : decode cX7_odds 133 = .ok (.iload 9, 2) := by decide +kernel
theorem dX7_odds_135 : decode cX7_odds 135 = .ok (.istore 8, 2) := by decide +kernel
theorem dX7_odds_137 : decode cX7_odds 137 = .ok (.goto (-20), 3) := by decide +kernel
theorem dX7_odds_140 : decode cX7_odds 140 = .ok (.iload 4, 2) := by decide +kernel
theorem dX7_odds_142 : decode cX7_odds 142 = .ok (.ifCond .ne 8, 3) := by decide +kernel
theorem dX7_odds_145 : decode cX7_odds 145 = .ok (.iload 6, 2) := by decide +kernel
theorem dX7_odds_147 : decode cX7_odds 147 = .ok (.goto 5, 3) := by decide +kernel
theorem dX7_odds_150 : decode cX7_odds 150 = .ok (.iload 5, 2) := by decide +kernel
theorem dX7_odds_152 : decode cX7_odds 152 = .ok (.iload 7, 2) := by decide +kernel
theorem dX7_odds_154 : decode cX7_odds 154 = .ok (.idiv, 1) := by decide +kernel
theorem dX7_odds_155 : decode cX7_odds 155 = .ok (.ireturn, 1) := by decide +kernel
theorem dX7_seed_0 : decode cX7_seed 0 = .ok (.aload_n 0, 1) := by decide +kernel
theorem dX7_seed_1 : decode cX7_seed 1 = .ok (.iconst 2, 1) := by decide +kernel
theorem dX7_seed_2 : decode cX7_seed 2 = .ok (.iload_n 1, 1) := by decide +kernel
theorem dX7_seed_3 : decode cX7_seed 3 = .ok (.invokevirtual 186, 3) := by decide +kernel
theorem dX7_seed_6 : decode cX7_seed 6 = .ok (.ireturn, 1) := by decide +kernel
theorem dX7_ran_0 : decode cX7_ran 0 = .ok (.aload_n 0, 1) := by decide +kernel
theorem dX7_ran_1 : decode cX7_ran 1 = .ok (.getfield 263, 3) := by decide +kernel
theorem dX7_ran_4 : decode cX7_ran 4 = .ok (.bipush 40, 2) := by decide +kernel
theorem dX7_ran_6 : decode cX7_ran 6 = .ok (.if_icmp .ge 23, 3) := by decide +kernel
theorem dX7_ran_9 : decode cX7_ran 9 = .ok (.aload_n 0, 1) := by decide +kernel
theorem dX7_ran_10 : decode cX7_ran 10 = .ok (.getfield 44, 3) := by decide +kernel
theorem dX7_ran_13 : decode cX7_ran 13 = .ok (.aload_n 0, 1) := by decide +kernel
theorem dX7_ran_14 : decode cX7_ran 14 = .ok (.getfield 263, 3) := by decide +kernel
theorem dX7_ran_17 : decode cX7_ran 17 = .ok (.iload_n 1, 1) := by decide +kernel
theorem dX7_ran_18 : decode cX7_ran 18 = .ok (.iastore, 1) := by decide +kernel
theorem dX7_ran_19 : decode cX7_ran 19 = .ok (.aload_n 0, 1) := by decide +kernel
theorem dX7_ran_20 : decode cX7_ran 20 = .ok (.dup, 1) := by decide +kernel
theorem dX7_ran_21 : decode cX7_ran 21 = .ok (.getfield 263, 3) := by decide +kernel
theorem dX7_ran_24 : decode cX7_ran 24 = .ok (.iconst 1, 1) := by decide +kernel
theorem dX7_ran_25 : decode cX7_ran 25 = .ok (.iadd, 1) := by decide +kernel
theorem dX7_ran_26 : decode cX7_ran 26 = .ok (.putfield 263, 3) := by decide +kernel
theorem dX7_ran_29 : decode cX7_ran 29 = .ok (.return_, 1) := by decide +kernel
theorem dX7_dancesOf_0 : decode cX7_dancesOf 0 = .ok (.aload_n 0, 1) := by decide +kernel
theorem dX7_dancesOf_1 : decode cX7_dancesOf 1 = .ok (.getfield 266, 3) := by decide +kernel
theorem dX7_dancesOf_4 : decode cX7_dancesOf 4 = .ok (.iconst 1, 1) := by decide +kernel
theorem dX7_dancesOf_5 : decode cX7_dancesOf 5 = .ok (.invokestatic 192, 3) := by decide +kernel
theorem dX7_dancesOf_8 : decode cX7_dancesOf 8 = .ok (.istore_n 2, 1) := by decide +kernel
theorem dX7_dancesOf_9 : decode cX7_dancesOf 9 = .ok (.iload_n 2, 1) := by decide +kernel
theorem dX7_dancesOf_10 : decode cX7_dancesOf 10 = .ok (.ifCond .eq 9, 3) := by decide +kernel
theorem dX7_dancesOf_13 : decode cX7_dancesOf 13 = .ok (.aload_n 0, 1) := by decide +kernel
theorem dX7_dancesOf_14 : decode cX7_dancesOf 14 = .ok (.bipush 20, 2) := by decide +kernel
theorem dX7_dancesOf_16 : decode cX7_dancesOf 16 = .ok (.invokevirtual 269, 3) := by decide +kernel
theorem dX7_dancesOf_19 : decode cX7_dancesOf 19 = .ok (.aload_n 0, 1) := by decide +kernel
theorem dX7_dancesOf_20 : decode cX7_dancesOf 20 = .ok (.bipush 10, 2) := by decide +kernel
theorem dX7_dancesOf_22 : decode cX7_dancesOf 22 = .ok (.invokevirtual 269, 3) := by decide +kernel
theorem dX7_dancesOf_25 : decode cX7_dancesOf 25 = .ok (.iload_n 2, 1) := by decide +kernel
theorem dX7_dancesOf_26 : decode cX7_dancesOf 26 = .ok (.ifCond .eq 14, 3) := by decide +kernel
theorem dX7_dancesOf_29 : decode cX7_dancesOf 29 = .ok (.iload_n 1, 1) := by decide +kernel
theorem dX7_dancesOf_30 : decode cX7_dancesOf 30 = .ok (.aload_n 0, 1) := by decide +kernel
theorem dX7_dancesOf_31 : decode cX7_dancesOf 31 = .ok (.getfield 272, 3) := by decide +kernel
theorem dX7_dancesOf_34 : decode cX7_dancesOf 34 = .ok (.iadd, 1) := by decide +kernel
theorem dX7_dancesOf_35 : decode cX7_dancesOf 35 = .ok (.iconst 3, 1) := by decide +kernel
theorem dX7_dancesOf_36 : decode cX7_dancesOf 36 = .ok (.imul, 1) := by decide +kernel
theorem dX7_dancesOf_37 : decode cX7_dancesOf 37 = .ok (.goto 9, 3) := by decide +kernel
theorem dX7_dancesOf_40 : decode cX7_dancesOf 40 = .ok (.iload_n 1, 1) := by decide +kernel
theorem dX7_dancesOf_41 : decode cX7_dancesOf 41 = .ok (.aload_n 0, 1) := by decide +kernel
theorem dX7_dancesOf_42 : decode cX7_dancesOf 42 = .ok (.getfield 272, 3) := by decide +kernel
theorem dX7_dancesOf_45 : decode cX7_dancesOf 45 = .ok (.iadd, 1) := by decide +kernel
theorem dX7_dancesOf_46 : decode cX7_dancesOf 46 = .ok (.ireturn, 1) := by decide +kernel
theorem dX7_sighsOf_0 : decode cX7_sighsOf 0 = .ok (.iload_n 1, 1) := by decide +kernel
theorem dX7_sighsOf_1 : decode cX7_sighsOf 1 = .ok (.istore_n 2, 1) := by decide +kernel
theorem dX7_sighsOf_2 : decode cX7_sighsOf 2 = .ok (.aload_n 0, 1) := by decide +kernel
theorem dX7_sighsOf_3 : decode cX7_sighsOf 3 = .ok (.getfield 266, 3) := by decide +kernel
theorem dX7_sighsOf_6 : decode cX7_sighsOf 6 = .ok (.iconst 5, 1) := by decide +kernel
theorem dX7_sighsOf_7 : decode cX7_sighsOf 7 = .ok (.if_icmp .ne 12, 3) := by decide +kernel
theorem dX7_sighsOf_10 : decode cX7_sighsOf 10 = .ok (.aload_n 0, 1) := by decide +kernel
theorem dX7_sighsOf_11 : decode cX7_sighsOf 11 = .ok (.bipush 60, 2) := by decide +kernel
theorem dX7_sighsOf_13 : decode cX7_sighsOf 13 = .ok (.invokevirtual 269, 3) := by decide +kernel
theorem dX7_sighsOf_16 : decode cX7_sighsOf 16 = .ok (.iinc 2 1, 3) := by decide +kernel
theorem dX7_sighsOf_19 : decode cX7_sighsOf 19 = .ok (.aload_n 0, 1) := by decide +kernel
theorem dX7_sighsOf_20 : decode cX7_sighsOf 20 = .ok (.getfield 266, 3) := by decide +kernel
theorem dX7_sighsOf_23 : decode cX7_sighsOf 23 = .ok (.iconst 2, 1) := by decide +kernel
theorem dX7_sighsOf_24 : decode cX7_sighsOf 24 = .ok (.invokestatic 192, 3) := by decide +kernel
theorem dX7_sighsOf_27 : decode cX7_sighsOf 27 = .ok (.istore_n 3, 1) := by decide +kernel
theorem dX7_sighsOf_28 : decode cX7_sighsOf 28 = .ok (.iload_n 3, 1) := by decide +kernel
theorem dX7_sighsOf_29 : decode cX7_sighsOf 29 = .ok (.ifCond .eq 9, 3) := by decide +kernel
theorem dX7_sighsOf_32 : decode cX7_sighsOf 32 = .ok (.aload_n 0, 1) := by decide +kernel
theorem dX7_sighsOf_33 : decode cX7_sighsOf 33 = .ok (.bipush 30, 2) := by decide +kernel
theorem dX7_sighsOf_35 : decode cX7_sighsOf 35 = .ok (.invokevirtual 269, 3) := by decide +kernel
theorem dX7_sighsOf_38 : decode cX7_sighsOf 38 = .ok (.aload_n 0, 1) := by decide +kernel
theorem dX7_sighsOf_39 : decode cX7_sighsOf 39 = .ok (.bipush 11, 2) := by decide +kernel
theorem dX7_sighsOf_41 : decode cX7_sighsOf 41 = .ok (.invokevirtual 269, 3) := by decide +kernel
theorem dX7_sighsOf_44 : decode cX7_sighsOf 44 = .ok (.aload_n 0, 1) := by decide +kernel
theorem dX7_sighsOf_45 : decode cX7_sighsOf 45 = .ok (.iload_n 2, 1) := by decide +kernel
theorem dX7_sighsOf_46 : decode cX7_sighsOf 46 = .ok (.invokevirtual 275, 3) := by decide +kernel
theorem dX7_sighsOf_49 : decode cX7_sighsOf 49 = .ok (.iconst 2, 1) := by decide +kernel
theorem dX7_sighsOf_50 : decode cX7_sighsOf 50 = .ok (.imul, 1) := by decide +kernel
theorem dX7_sighsOf_51 : decode cX7_sighsOf 51 = .ok (.istore 4, 2) := by decide +kernel
theorem dX7_sighsOf_53 : decode cX7_sighsOf 53 = .ok (.iload_n 3, 1) := by decide +kernel
theorem dX7_sighsOf_54 : decode cX7_sighsOf 54 = .ok (.ifCond .eq 14, 3) := by decide +kernel
theorem dX7_sighsOf_57 : decode cX7_sighsOf 57 = .ok (.iload 4, 2) := by decide +kernel
theorem dX7_sighsOf_59 : decode cX7_sighsOf 59 = .ok (.aload_n 0, 1) := by decide +kernel
theorem dX7_sighsOf_60 : decode cX7_sighsOf 60 = .ok (.iconst 1, 1) := by decide +kernel
theorem dX7_sighsOf_61 : decode cX7_sighsOf 61 = .ok (.invokevirtual 278, 3) := by decide +kernel
theorem dX7_sighsOf_64 : decode cX7_sighsOf 64 = .ok (.isub, 1) := by decide +kernel
theorem dX7_sighsOf_65 : decode cX7_sighsOf 65 = .ok (.goto 5, 3) := by decide +kernel
theorem dX7_sighsOf_68 : decode cX7_sighsOf 68 = .ok (.iload 4, 2) := by decide +kernel
theorem dX7_sighsOf_70 : decode cX7_sighsOf 70 = .ok (.ireturn, 1) := by decide +kernel
theorem dX7_looksOf_0 : decode cX7_looksOf 0 = .ok (.aload_n 0, 1) := by decide +kernel
theorem dX7_looksOf_1 : decode cX7_looksOf 1 = .ok (.getfield 266, 3) := by decide +kernel
theorem dX7_looksOf_4 : decode cX7_looksOf 4 = .ok (.bipush 6, 2) := by decide +kernel
theorem dX7_looksOf_6 : decode cX7_looksOf 6 = .ok (.if_icmp .ne 9, 3) := by decide +kernel
theorem dX7_looksOf_9 : decode cX7_looksOf 9 = .ok (.aload_n 0, 1) := by decide +kernel
theorem dX7_looksOf_10 : decode cX7_looksOf 10 = .ok (.bipush 70, 2) := by decide +kernel
theorem dX7_looksOf_12 : decode cX7_looksOf 12 = .ok (.invokevirtual 269, 3) := by decide +kernel
theorem dX7_looksOf_15 : decode cX7_looksOf 15 = .ok (.aload_n 0, 1) := by decide +kernel
theorem dX7_looksOf_16 : decode cX7_looksOf 16 = .ok (.getfield 266, 3) := by decide +kernel
theorem dX7_looksOf_19 : decode cX7_looksOf 19 = .ok (.iconst 3, 1) := by decide +kernel
theorem dX7_looksOf_20 : decode cX7_looksOf 20 = .ok (.invokestatic 192, 3) := by decide +kernel
theorem dX7_looksOf_23 : decode cX7_looksOf 23 = .ok (.istore_n 2, 1) := by decide +kernel
theorem dX7_looksOf_24 : decode cX7_looksOf 24 = .ok (.iload_n 2, 1) := by decide +kernel
theorem dX7_looksOf_25 : decode cX7_looksOf 25 = .ok (.ifCond .eq 9, 3) := by decide +kernel
theorem dX7_looksOf_28 : decode cX7_looksOf 28 = .ok (.aload_n 0, 1) := by decide +kernel
theorem dX7_looksOf_29 : decode cX7_looksOf 29 = .ok (.bipush 40, 2) := by decide +kernel
theorem dX7_looksOf_31 : decode cX7_looksOf 31 = .ok (.invokevirtual 269, 3) := by decide +kernel
theorem dX7_looksOf_34 : decode cX7_looksOf 34 = .ok (.aload_n 0, 1) := by decide +kernel
theorem dX7_looksOf_35 : decode cX7_looksOf 35 = .ok (.bipush 12, 2) := by decide +kernel
theorem dX7_looksOf_37 : decode cX7_looksOf 37 = .ok (.invokevirtual 269, 3) := by decide +kernel
theorem dX7_looksOf_40 : decode cX7_looksOf 40 = .ok (.iload_n 2, 1) := by decide +kernel
theorem dX7_looksOf_41 : decode cX7_looksOf 41 = .ok (.ifCond .eq 13, 3) := by decide +kernel
theorem dX7_looksOf_44 : decode cX7_looksOf 44 = .ok (.iload_n 1, 1) := by decide +kernel
theorem dX7_looksOf_45 : decode cX7_looksOf 45 = .ok (.aload_n 0, 1) := by decide +kernel
theorem dX7_looksOf_46 : decode cX7_looksOf 46 = .ok (.getfield 281, 3) := by decide +kernel
theorem dX7_looksOf_49 : decode cX7_looksOf 49 = .ok (.isub, 1) := by decide +kernel
theorem dX7_looksOf_50 : decode cX7_looksOf 50 = .ok (.ineg, 1) := by decide +kernel
theorem dX7_looksOf_51 : decode cX7_looksOf 51 = .ok (.goto 9, 3) := by decide +kernel
theorem dX7_looksOf_54 : decode cX7_looksOf 54 = .ok (.iload_n 1, 1) := by decide +kernel
theorem dX7_looksOf_55 : decode cX7_looksOf 55 = .ok (.aload_n 0, 1) := by decide +kernel
theorem dX7_looksOf_56 : decode cX7_looksOf 56 = .ok (.getfield 281, 3) := by decide +kernel
theorem dX7_looksOf_59 : decode cX7_looksOf 59 = .ok (.isub, 1) := by decide +kernel
theorem dX7_looksOf_60 : decode cX7_looksOf 60 = .ok (.istore_n 3, 1) := by decide +kernel
theorem dX7_looksOf_61 : decode cX7_looksOf 61 = .ok (.aload_n 0, 1) := by decide +kernel
theorem dX7_looksOf_62 : decode cX7_looksOf 62 = .ok (.getfield 266, 3) := by decide +kernel
theorem dX7_looksOf_65 : decode cX7_looksOf 65 = .ok (.bipush 6, 2) := by decide +kernel
theorem dX7_looksOf_67 : decode cX7_looksOf 67 = .ok (.if_icmp .ne 12, 3) := by decide +kernel
theorem dX7_looksOf_70 : decode cX7_looksOf 70 = .ok (.iload_n 3, 1) := by decide +kernel
theorem dX7_looksOf_71 : decode cX7_looksOf 71 = .ok (.aload_n 0, 1) := by decide +kernel
theorem dX7_looksOf_72 : decode cX7_looksOf 72 = .ok (.getfield 272, 3) := by decide +kernel
theorem dX7_looksOf_75 : decode cX7_looksOf 75 = .ok (.ixor, 1) := by decide +kernel
theorem dX7_looksOf_76 : decode cX7_looksOf 76 = .ok (.goto 4, 3) := by decide +kernel
theorem dX7_looksOf_79 : decode cX7_looksOf 79 = .ok (.iload_n 3, 1) := by decide +kernel
theorem dX7_looksOf_80 : decode cX7_looksOf 80 = .ok (.ireturn, 1) := by decide +kernel
theorem dX7_plainTells_0 : decode cX7_plainTells 0 = .ok (.aload_n 0, 1) := by decide +kernel
theorem dX7_plainTells_1 : decode cX7_plainTells 1 = .ok (.bipush 13, 2) := by decide +kernel
theorem dX7_plainTells_3 : decode cX7_plainTells 3 = .ok (.invokevirtual 269, 3) := by decide +kernel
theorem dX7_plainTells_6 : decode cX7_plainTells 6 = .ok (.aload_n 0, 1) := by decide +kernel
theorem dX7_plainTells_7 : decode cX7_plainTells 7 = .ok (.iload_n 1, 1) := by decide +kernel
theorem dX7_plainTells_8 : decode cX7_plainTells 8 = .ok (.invokevirtual 284, 3) := by decide +kernel
theorem dX7_plainTells_11 : decode cX7_plainTells 11 = .ok (.istore_n 2, 1) := by decide +kernel
theorem dX7_plainTells_12 : decode cX7_plainTells 12 = .ok (.iload_n 2, 1) := by decide +kernel
theorem dX7_plainTells_13 : decode cX7_plainTells 13 = .ok (.aload_n 0, 1) := by decide +kernel
theorem dX7_plainTells_14 : decode cX7_plainTells 14 = .ok (.iload_n 1, 1) := by decide +kernel
theorem dX7_plainTells_15 : decode cX7_plainTells 15 = .ok (.invokevirtual 278, 3) := by decide +kernel
theorem dX7_plainTells_18 : decode cX7_plainTells 18 = .ok (.ixor, 1) := by decide +kernel
theorem dX7_plainTells_19 : decode cX7_plainTells 19 = .ok (.ireturn, 1) := by decide +kernel
theorem dX7_tellsOf_0 : decode cX7_tellsOf 0 = .ok (.aload_n 0, 1) := by decide +kernel
theorem dX7_tellsOf_1 : decode cX7_tellsOf 1 = .ok (.getfield 266, 3) := by decide +kernel
theorem dX7_tellsOf_4 : decode cX7_tellsOf 4 = .ok (.bipush 6, 2) := by decide +kernel
theorem dX7_tellsOf_6 : decode cX7_tellsOf 6 = .ok (.if_icmp .ne 23, 3) := by decide +kernel
theorem dX7_tellsOf_9 : decode cX7_tellsOf 9 = .ok (.aload_n 0, 1) := by decide +kernel
theorem dX7_tellsOf_10 : decode cX7_tellsOf 10 = .ok (.bipush 71, 2) := by decide +kernel
theorem dX7_tellsOf_12 : decode cX7_tellsOf 12 = .ok (.invokevirtual 269, 3) := by decide +kernel
theorem dX7_tellsOf_15 : decode cX7_tellsOf 15 = .ok (.aload_n 0, 1) := by decide +kernel
theorem dX7_tellsOf_16 : decode cX7_tellsOf 16 = .ok (.iload_n 1, 1) := by decide +kernel
theorem dX7_tellsOf_17 : decode cX7_tellsOf 17 = .ok (.invokevirtual 284, 3) := by decide +kernel
theorem dX7_tellsOf_20 : decode cX7_tellsOf 20 = .ok (.istore_n 2, 1) := by decide +kernel
theorem dX7_tellsOf_21 : decode cX7_tellsOf 21 = .ok (.iload_n 2, 1) := by decide +kernel
theorem dX7_tellsOf_22 : decode cX7_tellsOf 22 = .ok (.aload_n 0, 1) := by decide +kernel
theorem dX7_tellsOf_23 : decode cX7_tellsOf 23 = .ok (.iload_n 1, 1) := by decide +kernel
theorem dX7_tellsOf_24 : decode cX7_tellsOf 24 = .ok (.invokevirtual 287, 3) := by decide +kernel
theorem dX7_tellsOf_27 : decode cX7_tellsOf 27 = .ok (.isub, 1) := by decide +kernel
theorem dX7_tellsOf_28 : decode cX7_tellsOf 28 = .ok (.ireturn, 1) := by decide +kernel
theorem dX7_tellsOf_29 : decode cX7_tellsOf 29 = .ok (.aload_n 0, 1) := by decide +kernel
theorem dX7_tellsOf_30 : decode cX7_tellsOf 30 = .ok (.getfield 266, 3) := by decide +kernel
theorem dX7_tellsOf_33 : decode cX7_tellsOf 33 = .ok (.iconst 4, 1) := by decide +kernel
theorem dX7_tellsOf_34 : decode cX7_tellsOf 34 = .ok (.if_icmp .ne 23, 3) := by decide +kernel
theorem dX7_tellsOf_37 : decode cX7_tellsOf 37 = .ok (.aload_n 0, 1) := by decide +kernel
theorem dX7_tellsOf_38 : decode cX7_tellsOf 38 = .ok (.bipush 50, 2) := by decide +kernel
theorem dX7_tellsOf_40 : decode cX7_tellsOf 40 = .ok (.invokevirtual 269, 3) := by decide +kernel
theorem dX7_tellsOf_43 : decode cX7_tellsOf 43 = .ok (.aload_n 0, 1) := by decide +kernel
theorem dX7_tellsOf_44 : decode cX7_tellsOf 44 = .ok (.iload_n 1, 1) := by decide +kernel
theorem dX7_tellsOf_45 : decode cX7_tellsOf 45 = .ok (.invokevirtual 287, 3) := by decide +kernel
theorem dX7_tellsOf_48 : decode cX7_tellsOf 48 = .ok (.istore_n 2, 1) := by decide +kernel
theorem dX7_tellsOf_49 : decode cX7_tellsOf 49 = .ok (.iload_n 2, 1) := by decide +kernel
theorem dX7_tellsOf_50 : decode cX7_tellsOf 50 = .ok (.aload_n 0, 1) := by decide +kernel
theorem dX7_tellsOf_51 : decode cX7_tellsOf 51 = .ok (.iconst 2, 1) := by decide +kernel
theorem dX7_tellsOf_52 : decode cX7_tellsOf 52 = .ok (.invokevirtual 275, 3) := by decide +kernel
theorem dX7_tellsOf_55 : decode cX7_tellsOf 55 = .ok (.isub, 1) := by decide +kernel
theorem dX7_tellsOf_56 : decode cX7_tellsOf 56 = .ok (.ireturn, 1) := by decide +kernel
theorem dX7_tellsOf_57 : decode cX7_tellsOf 57 = .ok (.aload_n 0, 1) := by decide +kernel
theorem dX7_tellsOf_58 : decode cX7_tellsOf 58 = .ok (.iload_n 1, 1) := by decide +kernel
theorem dX7_tellsOf_59 : decode cX7_tellsOf 59 = .ok (.invokevirtual 287, 3) := by decide +kernel
theorem dX7_tellsOf_62 : decode cX7_tellsOf 62 = .ok (.ireturn, 1) := by decide +kernel
theorem dX7_voice_0 : decode cX7_voice 0 = .ok (.aload_n 0, 1) := by decide +kernel
theorem dX7_voice_1 : decode cX7_voice 1 = .ok (.iload_n 1, 1) := by decide +kernel
theorem dX7_voice_2 : decode cX7_voice 2 = .ok (.invokevirtual 159, 3) := by decide +kernel
theorem dX7_voice_5 : decode cX7_voice 5 = .ok (.ifCond .eq 12, 3) := by decide +kernel
theorem dX7_voice_8 : decode cX7_voice 8 = .ok (.iload_n 2, 1) := by decide +kernel
theorem dX7_voice_9 : decode cX7_voice 9 = .ok (.iconst 0, 1) := by decide +kernel
theorem dX7_voice_10 : decode cX7_voice 10 = .ok (.iconst 3, 1) := by decide +kernel
theorem dX7_voice_11 : decode cX7_voice 11 = .ok (.invokestatic 73, 3) := by decide +kernel
theorem dX7_voice_14 : decode cX7_voice 14 = .ok (.ifCond .ne 10, 3) := by decide +kernel
theorem dX7_voice_17 : decode cX7_voice 17 = .ok (.aload_n 0, 1) := by decide +kernel
theorem dX7_voice_18 : decode cX7_voice 18 = .ok (.ldc 77, 2) := by decide +kernel
theorem dX7_voice_20 : decode cX7_voice 20 = .ok (.invokevirtual 78, 3) := by decide +kernel
theorem dX7_voice_23 : decode cX7_voice 23 = .ok (.ireturn, 1) := by decide +kernel
theorem dX7_voice_24 : decode cX7_voice 24 = .ok (.aload_n 0, 1) := by decide +kernel
theorem dX7_voice_25 : decode cX7_voice 25 = .ok (.iconst 0, 1) := by decide +kernel
theorem dX7_voice_26 : decode cX7_voice 26 = .ok (.putfield 263, 3) := by decide +kernel
theorem dX7_voice_29 : decode cX7_voice 29 = .ok (.aload_n 0, 1) := by decide +kernel
theorem dX7_voice_30 : decode cX7_voice 30 = .ok (.aload_n 0, 1) := by decide +kernel
theorem dX7_voice_31 : decode cX7_voice 31 = .ok (.iload_n 1, 1) := by decide +kernel
theorem dX7_voice_32 : decode cX7_voice 32 = .ok (.iconst 0, 1) := by decide +kernel
theorem dX7_voice_33 : decode cX7_voice 33 = .ok (.invokevirtual 165, 3) := by decide +kernel
theorem dX7_voice_36 : decode cX7_voice 36 = .ok (.putfield 266, 3) := by decide +kernel
theorem dX7_voice_39 : decode cX7_voice 39 = .ok (.aload_n 0, 1) := by decide +kernel
theorem dX7_voice_40 : decode cX7_voice 40 = .ok (.iload_n 1, 1) := by decide +kernel
theorem dX7_voice_41 : decode cX7_voice 41 = .ok (.putfield 272, 3) := by decide +kernel
theorem dX7_voice_44 : decode cX7_voice 44 = .ok (.aload_n 0, 1) := by decide +kernel
theorem dX7_voice_45 : decode cX7_voice 45 = .ok (.aload_n 0, 1) := by decide +kernel
theorem dX7_voice_46 : decode cX7_voice 46 = .ok (.iload_n 1, 1) := by decide +kernel
theorem dX7_voice_47 : decode cX7_voice 47 = .ok (.iconst 1, 1) := by decide +kernel
theorem dX7_voice_48 : decode cX7_voice 48 = .ok (.invokevirtual 165, 3) := by decide +kernel
theorem dX7_voice_51 : decode cX7_voice 51 = .ok (.putfield 281, 3) := by decide +kernel
theorem dX7_voice_54 : decode cX7_voice 54 = .ok (.iload_n 2, 1) := by decide +kernel
theorem dX7_voice_55 : decode cX7_voice 55 = .ok (.ifCond .ne 11, 3) := by decide +kernel
theorem dX7_voice_58 : decode cX7_voice 58 = .ok (.aload_n 0, 1) := by decide +kernel
theorem dX7_voice_59 : decode cX7_voice 59 = .ok (.iload_n 3, 1) := by decide +kernel
theorem dX7_voice_60 : decode cX7_voice 60 = .ok (.invokevirtual 275, 3) := by decide +kernel
theorem dX7_voice_63 : decode cX7_voice 63 = .ok (.goto 34, 3) := by decide +kernel
theorem dX7_voice_66 : decode cX7_voice 66 = .ok (.iload_n 2, 1) := by decide +kernel
theorem dX7_voice_67 : decode cX7_voice 67 = .ok (.iconst 1, 1) := by decide +kernel
theorem dX7_voice_68 : decode cX7_voice 68 = .ok (.if_icmp .ne 11, 3) := by decide +kernel
theorem dX7_voice_71 : decode cX7_voice 71 = .ok (.aload_n 0, 1) := by decide +kernel
theorem dX7_voice_72 : decode cX7_voice 72 = .ok (.iload_n 3, 1) := by decide +kernel
theorem dX7_voice_73 : decode cX7_voice 73 = .ok (.invokevirtual 284, 3) := by decide +kernel
theorem dX7_voice_76 : decode cX7_voice 76 = .ok (.goto 21, 3) := by decide +kernel
theorem dX7_voice_79 : decode cX7_voice 79 = .ok (.iload_n 2, 1) := by decide +kernel
theorem dX7_voice_80 : decode cX7_voice 80 = .ok (.iconst 2, 1) := by decide +kernel
theorem dX7_voice_81 : decode cX7_voice 81 = .ok (.if_icmp .ne 11, 3) := by decide +kernel
theorem dX7_voice_84 : decode cX7_voice 84 = .ok (.aload_n 0, 1) := by decide +kernel
theorem dX7_voice_85 : decode cX7_voice 85 = .ok (.iload_n 3, 1) := by decide +kernel
theorem dX7_voice_86 : decode cX7_voice 86 = .ok (.invokevirtual 278, 3) := by decide +kernel
theorem dX7_voice_89 : decode cX7_voice 89 = .ok (.goto 8, 3) := by decide +kernel
theorem dX7_voice_92 : decode cX7_voice 92 = .ok (.aload_n 0, 1) := by decide +kernel
theorem dX7_voice_93 : decode cX7_voice 93 = .ok (.iload_n 3, 1) := by decide +kernel
theorem dX7_voice_94 : decode cX7_voice 94 = .ok (.invokevirtual 290, 3) := by decide +kernel
theorem dX7_voice_97 : decode cX7_voice 97 = .ok (.ireturn, 1) := by decide +kernel
theorem dX7_trace_0 : decode cX7_trace 0 = .ok (.iload_n 1, 1) := by decide +kernel
theorem dX7_trace_1 : decode cX7_trace 1 = .ok (.iconst 0, 1) := by decide +kernel
theorem dX7_trace_2 : decode cX7_trace 2 = .ok (.aload_n 0, 1) := by decide +kernel
theorem dX7_trace_3 : decode cX7_trace 3 = .ok (.getfield 263, 3) := by decide +kernel
theorem dX7_trace_6 : decode cX7_trace 6 = .ok (.iconst 1, 1) := by decide +kernel
theorem dX7_trace_7 : decode cX7_trace 7 = .ok (.isub, 1) := by decide +kernel
theorem dX7_trace_8 : decode cX7_trace 8 = .ok (.invokestatic 73, 3) := by decide +kernel
theorem dX7_trace_11 : decode cX7_trace 11 = .ok (.ifCond .eq 12, 3) := by decide +kernel
theorem dX7_trace_14 : decode cX7_trace 14 = .ok (.aload_n 0, 1) := by decide +kernel
theorem dX7_trace_15 : decode cX7_trace 15 = .ok (.getfield 44, 3) := by decide +kernel
theorem dX7_trace_18 : decode cX7_trace 18 = .ok (.iload_n 1, 1) := by decide +kernel
theorem dX7_trace_19 : decode cX7_trace 19 = .ok (.iaload, 1) := by decide +kernel
theorem dX7_trace_20 : decode cX7_trace 20 = .ok (.goto 9, 3) := by decide +kernel
theorem dX7_trace_23 : decode cX7_trace 23 = .ok (.aload_n 0, 1) := by decide +kernel
theorem dX7_trace_24 : decode cX7_trace 24 = .ok (.ldc 236, 2) := by decide +kernel
theorem dX7_trace_26 : decode cX7_trace 26 = .ok (.invokevirtual 78, 3) := by decide +kernel
theorem dX7_trace_29 : decode cX7_trace 29 = .ok (.ireturn, 1) := by decide +kernel
theorem dX7_isSheet_0 : decode cX7_isSheet 0 = .ok (.iload_n 0, 1) := by decide +kernel
theorem dX7_isSheet_1 : decode cX7_isSheet 1 = .ok (.iconst 0, 1) := by decide +kernel
theorem dX7_isSheet_2 : decode cX7_isSheet 2 = .ok (.iconst 3, 1) := by decide +kernel
theorem dX7_isSheet_3 : decode cX7_isSheet 3 = .ok (.invokestatic 73, 3) := by decide +kernel
theorem dX7_isSheet_6 : decode cX7_isSheet 6 = .ok (.ireturn, 1) := by decide +kernel
theorem dX7_sheet_0 : decode cX7_sheet 0 = .ok (.iload_n 1, 1) := by decide +kernel
theorem dX7_sheet_1 : decode cX7_sheet 1 = .ok (.invokestatic 250, 3) := by decide +kernel
theorem dX7_sheet_4 : decode cX7_sheet 4 = .ok (.ifCond .eq 25, 3) := by decide +kernel
theorem dX7_sheet_7 : decode cX7_sheet 7 = .ok (.iload_n 2, 1) := by decide +kernel
theorem dX7_sheet_8 : decode cX7_sheet 8 = .ok (.ifCond .eq 28, 3) := by decide +kernel
theorem dX7_sheet_11 : decode cX7_sheet 11 = .ok (.iload_n 2, 1) := by decide +kernel
theorem dX7_sheet_12 : decode cX7_sheet 12 = .ok (.bipush 8, 2) := by decide +kernel
theorem dX7_sheet_14 : decode cX7_sheet 14 = .ok (.if_icmp .eq 22, 3) := by decide +kernel
theorem dX7_sheet_17 : decode cX7_sheet 17 = .ok (.iload_n 2, 1) := by decide +kernel
theorem dX7_sheet_18 : decode cX7_sheet 18 = .ok (.bipush 16, 2) := by decide +kernel
theorem dX7_sheet_20 : decode cX7_sheet 20 = .ok (.if_icmp .eq 16, 3) := by decide +kernel
theorem dX7_sheet_23 : decode cX7_sheet 23 = .ok (.iload_n 2, 1) := by decide +kernel
theorem dX7_sheet_24 : decode cX7_sheet 24 = .ok (.bipush 32, 2) := by decide +kernel
theorem dX7_sheet_26 : decode cX7_sheet 26 = .ok (.if_icmp .eq 10, 3) := by decide +kernel
theorem dX7_sheet_29 : decode cX7_sheet 29 = .ok (.aload_n 0, 1) := by decide +kernel
theorem dX7_sheet_30 : decode cX7_sheet 30 = .ok (.ldc 77, 2) := by decide +kernel
theorem dX7_sheet_32 : decode cX7_sheet 32 = .ok (.invokevirtual 78, 3) := by decide +kernel
theorem dX7_sheet_35 : decode cX7_sheet 35 = .ok (.ireturn, 1) := by decide +kernel
theorem dX7_sheet_36 : decode cX7_sheet 36 = .ok (.iload_n 2, 1) := by decide +kernel
theorem dX7_sheet_37 : decode cX7_sheet 37 = .ok (.ifCond .eq 14, 3) := by decide +kernel
theorem dX7_sheet_40 : decode cX7_sheet 40 = .ok (.iload_n 3, 1) := by decide +kernel
theorem dX7_sheet_41 : decode cX7_sheet 41 = .ok (.ifCond .ge 10, 3) := by decide +kernel
theorem dX7_sheet_44 : decode cX7_sheet 44 = .ok (.aload_n 0, 1) := by decide +kernel
theorem dX7_sheet_45 : decode cX7_sheet 45 = .ok (.ldc 207, 2) := by decide +kernel
theorem dX7_sheet_47 : decode cX7_sheet 47 = .ok (.invokevirtual 78, 3) := by decide +kernel
theorem dX7_sheet_50 : decode cX7_sheet 50 = .ok (.ireturn, 1) := by decide +kernel
theorem dX7_sheet_51 : decode cX7_sheet 51 = .ok (.iload_n 2, 1) := by decide +kernel
theorem dX7_sheet_52 : decode cX7_sheet 52 = .ok (.ifCond .eq 16, 3) := by decide +kernel
theorem dX7_sheet_55 : decode cX7_sheet 55 = .ok (.iload_n 3, 1) := by decide +kernel
theorem dX7_sheet_56 : decode cX7_sheet 56 = .ok (.bipush 40, 2) := by decide +kernel
theorem dX7_sheet_58 : decode cX7_sheet 58 = .ok (.if_icmp .le 10, 3) := by decide +kernel
theorem dX7_sheet_61 : decode cX7_sheet 61 = .ok (.aload_n 0, 1) := by decide +kernel
theorem dX7_sheet_62 : decode cX7_sheet 62 = .ok (.ldc 77, 2) := by decide +kernel
theorem dX7_sheet_64 : decode cX7_sheet 64 = .ok (.invokevirtual 78, 3) := by decide +kernel
theorem dX7_sheet_67 : decode cX7_sheet 67 = .ok (.ireturn, 1) := by decide +kernel
theorem dX7_sheet_68 : decode cX7_sheet 68 = .ok (.aload_n 0, 1) := by decide +kernel
theorem dX7_sheet_69 : decode cX7_sheet 69 = .ok (.getfield 47, 3) := by decide +kernel
theorem dX7_sheet_72 : decode cX7_sheet 72 = .ok (.iload_n 1, 1) := by decide +kernel
theorem dX7_sheet_73 : decode cX7_sheet 73 = .ok (.iload_n 2, 1) := by decide +kernel
theorem dX7_sheet_74 : decode cX7_sheet 74 = .ok (.iastore, 1) := by decide +kernel
theorem dX7_sheet_75 : decode cX7_sheet 75 = .ok (.aload_n 0, 1) := by decide +kernel
theorem dX7_sheet_76 : decode cX7_sheet 76 = .ok (.getfield 50, 3) := by decide +kernel
theorem dX7_sheet_79 : decode cX7_sheet 79 = .ok (.iload_n 1, 1) := by decide +kernel
theorem dX7_sheet_80 : decode cX7_sheet 80 = .ok (.iload_n 2, 1) := by decide +kernel
theorem dX7_sheet_81 : decode cX7_sheet 81 = .ok (.ifCond .ne 7, 3) := by decide +kernel
theorem dX7_sheet_84 : decode cX7_sheet 84 = .ok (.iconst 0, 1) := by decide +kernel
theorem dX7_sheet_85 : decode cX7_sheet 85 = .ok (.goto 4, 3) := by decide +kernel
theorem dX7_sheet_88 : decode cX7_sheet 88 = .ok (.iload_n 3, 1) := by decide +kernel
theorem dX7_sheet_89 : decode cX7_sheet 89 = .ok (.iastore, 1) := by decide +kernel
theorem dX7_sheet_90 : decode cX7_sheet 90 = .ok (.iconst 0, 1) := by decide +kernel
theorem dX7_sheet_91 : decode cX7_sheet 91 = .ok (.istore 4, 2) := by decide +kernel
theorem dX7_sheet_93 : decode cX7_sheet 93 = .ok (.iload 4, 2) := by decide +kernel
theorem dX7_sheet_95 : decode cX7_sheet 95 = .ok (.bipush 40, 2) := by decide +kernel
theorem dX7_sheet_97 : decode cX7_sheet 97 = .ok (.if_icmp .ge 22, 3) := by decide +kernel
theorem dX7_sheet_100 : decode cX7_sheet 100 = .ok (.aload_n 0, 1) := by decide +kernel
theorem dX7_sheet_101 : decode cX7_sheet 101 = .ok (.getfield 53, 3) := by decide +kernel
theorem dX7_sheet_104 : decode cX7_sheet 104 = .ok (.bipush 40, 2) := by decide +kernel
theorem dX7_sheet_106 : decode cX7_sheet 106 = .ok (.iload_n 1, 1) := by decide +kernel
theorem dX7_sheet_107 : decode cX7_sheet 107 = .ok (.imul, 1) := by decide +kernel
theorem dX7_sheet_108 : decode cX7_sheet 108 = .ok (.iload 4, 2) := by decide +kernel
theorem dX7_sheet_110 : decode cX7_sheet 110 = .ok (.iadd, 1) := by decide +kernel
theorem dX7_sheet_111 : decode cX7_sheet 111 = .ok (.iconst 0, 1) := by decide +kernel
theorem dX7_sheet_112 : decode cX7_sheet 112 = .ok (.iastore, 1) := by decide +kernel
theorem dX7_sheet_113 : decode cX7_sheet 113 = .ok (.iinc 4 1, 3) := by decide +kernel
theorem dX7_sheet_116 : decode cX7_sheet 116 = .ok (.goto (-23), 3) := by decide +kernel
theorem dX7_sheet_119 : decode cX7_sheet 119 = .ok (.iconst 1, 1) := by decide +kernel
theorem dX7_sheet_120 : decode cX7_sheet 120 = .ok (.ireturn, 1) := by decide +kernel
theorem dX7_put_0 : decode cX7_put 0 = .ok (.iload_n 1, 1) := by decide +kernel
theorem dX7_put_1 : decode cX7_put 1 = .ok (.invokestatic 250, 3) := by decide +kernel
theorem dX7_put_4 : decode cX7_put 4 = .ok (.ifCond .ne 10, 3) := by decide +kernel
theorem dX7_put_7 : decode cX7_put 7 = .ok (.aload_n 0, 1) := by decide +kernel
theorem dX7_put_8 : decode cX7_put 8 = .ok (.ldc 77, 2) := by decide +kernel
theorem dX7_put_10 : decode cX7_put 10 = .ok (.invokevirtual 78, 3) := by decide +kernel
theorem dX7_put_13 : decode cX7_put 13 = .ok (.ireturn, 1) := by decide +kernel
theorem dX7_put_14 : decode cX7_put 14 = .ok (.aload_n 0, 1) := by decide +kernel
theorem dX7_put_15 : decode cX7_put 15 = .ok (.getfield 47, 3) := by decide +kernel
theorem dX7_put_18 : decode cX7_put 18 = .ok (.iload_n 1, 1) := by decide +kernel
theorem dX7_put_19 : decode cX7_put 19 = .ok (.iaload, 1) := by decide +kernel
theorem dX7_put_20 : decode cX7_put 20 = .ok (.ifCond .ne 10, 3) := by decide +kernel
theorem dX7_put_23 : decode cX7_put 23 = .ok (.aload_n 0, 1) := by decide +kernel
theorem dX7_put_24 : decode cX7_put 24 = .ok (.ldc 236, 2) := by decide +kernel
theorem dX7_put_26 : decode cX7_put 26 = .ok (.invokevirtual 78, 3) := by decide +kernel
theorem dX7_put_29 : decode cX7_put 29 = .ok (.ireturn, 1) := by decide +kernel
theorem dX7_put_30 : decode cX7_put 30 = .ok (.iload_n 2, 1) := by decide +kernel
theorem dX7_put_31 : decode cX7_put 31 = .ok (.iconst 0, 1) := by decide +kernel
theorem dX7_put_32 : decode cX7_put 32 = .ok (.aload_n 0, 1) := by decide +kernel
theorem dX7_put_33 : decode cX7_put 33 = .ok (.getfield 50, 3) := by decide +kernel
theorem dX7_put_36 : decode cX7_put 36 = .ok (.iload_n 1, 1) := by decide +kernel
theorem dX7_put_37 : decode cX7_put 37 = .ok (.iaload, 1) := by decide +kernel
theorem dX7_put_38 : decode cX7_put 38 = .ok (.iconst 1, 1) := by decide +kernel
theorem dX7_put_39 : decode cX7_put 39 = .ok (.isub, 1) := by decide +kernel
theorem dX7_put_40 : decode cX7_put 40 = .ok (.invokestatic 73, 3) := by decide +kernel
theorem dX7_put_43 : decode cX7_put 43 = .ok (.ifCond .ne 10, 3) := by decide +kernel
theorem dX7_put_46 : decode cX7_put 46 = .ok (.aload_n 0, 1) := by decide +kernel
theorem dX7_put_47 : decode cX7_put 47 = .ok (.ldc 77, 2) := by decide +kernel
theorem dX7_put_49 : decode cX7_put 49 = .ok (.invokevirtual 78, 3) := by decide +kernel
theorem dX7_put_52 : decode cX7_put 52 = .ok (.ireturn, 1) := by decide +kernel
theorem dX7_put_53 : decode cX7_put 53 = .ok (.aload_n 0, 1) := by decide +kernel
theorem dX7_put_54 : decode cX7_put 54 = .ok (.getfield 53, 3) := by decide +kernel
theorem dX7_put_57 : decode cX7_put 57 = .ok (.bipush 40, 2) := by decide +kernel
theorem dX7_put_59 : decode cX7_put 59 = .ok (.iload_n 1, 1) := by decide +kernel
theorem dX7_put_60 : decode cX7_put 60 = .ok (.imul, 1) := by decide +kernel
theorem dX7_put_61 : decode cX7_put 61 = .ok (.iload_n 2, 1) := by decide +kernel
theorem dX7_put_62 : decode cX7_put 62 = .ok (.iadd, 1) := by decide +kernel
theorem dX7_put_63 : decode cX7_put 63 = .ok (.aload_n 0, 1) := by decide +kernel
theorem dX7_put_64 : decode cX7_put 64 = .ok (.getfield 47, 3) := by decide +kernel
theorem dX7_put_67 : decode cX7_put 67 = .ok (.iload_n 1, 1) := by decide +kernel
theorem dX7_put_68 : decode cX7_put 68 = .ok (.iaload, 1) := by decide +kernel
theorem dX7_put_69 : decode cX7_put 69 = .ok (.bipush 8, 2) := by decide +kernel
theorem dX7_put_71 : decode cX7_put 71 = .ok (.if_icmp .ne 8, 3) := by decide +kernel
theorem dX7_put_74 : decode cX7_put 74 = .ok (.iload_n 3, 1) := by decide +kernel
theorem dX7_put_75 : decode cX7_put 75 = .ok (.i2b, 1) := by decide +kernel
theorem dX7_put_76 : decode cX7_put 76 = .ok (.goto 20, 3) := by decide +kernel
theorem dX7_put_79 : decode cX7_put 79 = .ok (.aload_n 0, 1) := by decide +kernel
theorem dX7_put_80 : decode cX7_put 80 = .ok (.getfield 47, 3) := by decide +kernel
theorem dX7_put_83 : decode cX7_put 83 = .ok (.iload_n 1, 1) := by decide +kernel
theorem dX7_put_84 : decode cX7_put 84 = .ok (.iaload, 1) := by decide +kernel
theorem dX7_put_85 : decode cX7_put 85 = .ok (.bipush 16, 2) := by decide +kernel
theorem dX7_put_87 : decode cX7_put 87 = .ok (.if_icmp .ne 8, 3) := by decide +kernel
theorem dX7_put_90 : decode cX7_put 90 = .ok (.iload_n 3, 1) := by decide +kernel
theorem dX7_put_91 : decode cX7_put 91 = .ok (.i2s, 1) := by decide +kernel
theorem dX7_put_92 : decode cX7_put 92 = .ok (.goto 4, 3) := by decide +kernel
theorem dX7_put_95 : decode cX7_put 95 = .ok (.iload_n 3, 1) := by decide +kernel
theorem dX7_put_96 : decode cX7_put 96 = .ok (.iastore, 1) := by decide +kernel
theorem dX7_put_97 : decode cX7_put 97 = .ok (.iconst 1, 1) := by decide +kernel
theorem dX7_put_98 : decode cX7_put 98 = .ok (.ireturn, 1) := by decide +kernel
theorem dX7_move_0 : decode cX7_move 0 = .ok (.iload_n 1, 1) := by decide +kernel
theorem dX7_move_1 : decode cX7_move 1 = .ok (.invokestatic 250, 3) := by decide +kernel
theorem dX7_move_4 : decode cX7_move 4 = .ok (.ifCond .eq 10, 3) := by decide +kernel
theorem dX7_move_7 : decode cX7_move 7 = .ok (.iload_n 3, 1) := by decide +kernel
theorem dX7_move_8 : decode cX7_move 8 = .ok (.invokestatic 250, 3) := by decide +kernel
theorem dX7_move_11 : decode cX7_move 11 = .ok (.ifCond .ne 10, 3) := by decide +kernel
theorem dX7_move_14 : decode cX7_move 14 = .ok (.aload_n 0, 1) := by decide +kernel
theorem dX7_move_15 : decode cX7_move 15 = .ok (.ldc 77, 2) := by decide +kernel
theorem dX7_move_17 : decode cX7_move 17 = .ok (.invokevirtual 78, 3) := by decide +kernel
theorem dX7_move_20 : decode cX7_move 20 = .ok (.ireturn, 1) := by decide +kernel
theorem dX7_move_21 : decode cX7_move 21 = .ok (.aload_n 0, 1) := by decide +kernel
theorem dX7_move_22 : decode cX7_move 22 = .ok (.getfield 47, 3) := by decide +kernel
theorem dX7_move_25 : decode cX7_move 25 = .ok (.iload_n 1, 1) := by decide +kernel
theorem dX7_move_26 : decode cX7_move 26 = .ok (.iaload, 1) := by decide +kernel
theorem dX7_move_27 : decode cX7_move 27 = .ok (.ifCond .eq 12, 3) := by decide +kernel
theorem dX7_move_30 : decode cX7_move 30 = .ok (.aload_n 0, 1) := by decide +kernel
theorem dX7_move_31 : decode cX7_move 31 = .ok (.getfield 47, 3) := by decide +kernel
theorem dX7_move_34 : decode cX7_move 34 = .ok (.iload_n 3, 1) := by decide +kernel
theorem dX7_move_35 : decode cX7_move 35 = .ok (.iaload, 1) := by decide +kernel
theorem dX7_move_36 : decode cX7_move 36 = .ok (.ifCond .ne 10, 3) := by decide +kernel
theorem dX7_move_39 : decode cX7_move 39 = .ok (.aload_n 0, 1) := by decide +kernel
theorem dX7_move_40 : decode cX7_move 40 = .ok (.ldc 236, 2) := by decide +kernel
theorem dX7_move_42 : decode cX7_move 42 = .ok (.invokevirtual 78, 3) := by decide +kernel
theorem dX7_move_45 : decode cX7_move 45 = .ok (.ireturn, 1) := by decide +kernel
theorem dX7_move_46 : decode cX7_move 46 = .ok (.aload_n 0, 1) := by decide +kernel
theorem dX7_move_47 : decode cX7_move 47 = .ok (.getfield 47, 3) := by decide +kernel
theorem dX7_move_50 : decode cX7_move 50 = .ok (.iload_n 1, 1) := by decide +kernel
theorem dX7_move_51 : decode cX7_move 51 = .ok (.iaload, 1) := by decide +kernel
theorem dX7_move_52 : decode cX7_move 52 = .ok (.aload_n 0, 1) := by decide +kernel
theorem dX7_move_53 : decode cX7_move 53 = .ok (.getfield 47, 3) := by decide +kernel
theorem dX7_move_56 : decode cX7_move 56 = .ok (.iload_n 3, 1) := by decide +kernel
theorem dX7_move_57 : decode cX7_move 57 = .ok (.iaload, 1) := by decide +kernel
theorem dX7_move_58 : decode cX7_move 58 = .ok (.if_icmp .eq 10, 3) := by decide +kernel
theorem dX7_move_61 : decode cX7_move 61 = .ok (.aload_n 0, 1) := by decide +kernel
theorem dX7_move_62 : decode cX7_move 62 = .ok (.ldc 196, 2) := by decide +kernel
theorem dX7_move_64 : decode cX7_move 64 = .ok (.invokevirtual 78, 3) := by decide +kernel
theorem dX7_move_67 : decode cX7_move 67 = .ok (.ireturn, 1) := by decide +kernel
theorem dX7_move_68 : decode cX7_move 68 = .ok (.iload 5, 2) := by decide +kernel
theorem dX7_move_70 : decode cX7_move 70 = .ok (.ifCond .lt 47, 3) := by decide +kernel
theorem dX7_move_73 : decode cX7_move 73 = .ok (.iload_n 2, 1) := by decide +kernel
theorem dX7_move_74 : decode cX7_move 74 = .ok (.ifCond .lt 43, 3) := by decide +kernel
theorem dX7_move_77 : decode cX7_move 77 = .ok (.iload 4, 2) := by decide +kernel
theorem dX7_move_79 : decode cX7_move 79 = .ok (.ifCond .lt 38, 3) := by decide +kernel
theorem dX7_move_82 : decode cX7_move 82 = .ok (.iload_n 2, 1) := by decide +kernel
theorem dX7_move_83 : decode cX7_move 83 = .ok (.i2l, 1) := by decide +kernel
theorem dX7_move_84 : decode cX7_move 84 = .ok (.iload 5, 2) := by decide +kernel
theorem dX7_move_86 : decode cX7_move 86 = .ok (.i2l, 1) := by decide +kernel
theorem dX7_move_87 : decode cX7_move 87 = .ok (.ladd, 1) := by decide +kernel
theorem dX7_move_88 : decode cX7_move 88 = .ok (.aload_n 0, 1) := by decide +kernel
theorem dX7_move_89 : decode cX7_move 89 = .ok (.getfield 50, 3) := by decide +kernel
theorem dX7_move_92 : decode cX7_move 92 = .ok (.iload_n 1, 1) := by decide +kernel
theorem dX7_move_93 : decode cX7_move 93 = .ok (.iaload, 1) := by decide +kernel
theorem dX7_move_94 : decode cX7_move 94 = .ok (.i2l, 1) := by decide +kernel
theorem dX7_move_95 : decode cX7_move 95 = .ok (.lcmp, 1) := by decide +kernel
theorem dX7_move_96 : decode cX7_move 96 = .ok (.ifCond .gt 21, 3) := by decide +kernel
theorem dX7_move_99 : decode cX7_move 99 = .ok (.iload 4, 2) := by decide +kernel
theorem dX7_move_101 : decode cX7_move 101 = .ok (.i2l, 1) := by decide +kernel
theorem dX7_move_102 : decode cX7_move 102 = .ok (.iload 5, 2) := by decide +kernel
theorem dX7_move_104 : decode cX7_move 104 = .ok (.i2l, 1) := by decide +kernel
theorem dX7_move_105 : decode cX7_move 105 = .ok (.ladd, 1) := by decide +kernel
theorem dX7_move_106 : decode cX7_move 106 = .ok (.aload_n 0, 1) := by decide +kernel
theorem dX7_move_107 : decode cX7_move 107 = .ok (.getfield 50, 3) := by decide +kernel
theorem dX7_move_110 : decode cX7_move 110 = .ok (.iload_n 3, 1) := by decide +kernel
theorem dX7_move_111 : decode cX7_move 111 = .ok (.iaload, 1) := by decide +kernel
theorem dX7_move_112 : decode cX7_move 112 = .ok (.i2l, 1) := by decide +kernel
theorem dX7_move_113 : decode cX7_move 113 = .ok (.lcmp, 1) := by decide +kernel
theorem dX7_move_114 : decode cX7_move 114 = .ok (.ifCond .le 10, 3) := by decide +kernel
theorem dX7_move_117 : decode cX7_move 117 = .ok (.aload_n 0, 1) := by decide +kernel
theorem dX7_move_118 : decode cX7_move 118 = .ok (.ldc 77, 2) := by decide +kernel
theorem dX7_move_120 : decode cX7_move 120 = .ok (.invokevirtual 78, 3) := by decide +kernel
theorem dX7_move_123 : decode cX7_move 123 = .ok (.ireturn, 1) := by decide +kernel
theorem dX7_move_124 : decode cX7_move 124 = .ok (.iconst 0, 1) := by decide +kernel
theorem dX7_move_125 : decode cX7_move 125 = .ok (.istore 6, 2) := by decide +kernel
theorem dX7_move_127 : decode cX7_move 127 = .ok (.iload 6, 2) := by decide +kernel
theorem dX7_move_129 : decode cX7_move 129 = .ok (.iload 5, 2) := by decide +kernel
theorem dX7_move_131 : decode cX7_move 131 = .ok (.if_icmp .ge 30, 3) := by decide +kernel
theorem dX7_move_134 : decode cX7_move 134 = .ok (.aload_n 0, 1) := by decide +kernel
theorem dX7_move_135 : decode cX7_move 135 = .ok (.getfield 56, 3) := by decide +kernel
theorem dX7_move_138 : decode cX7_move 138 = .ok (.iload 6, 2) := by decide +kernel
theorem dX7_move_140 : decode cX7_move 140 = .ok (.aload_n 0, 1) := by decide +kernel
theorem dX7_move_141 : decode cX7_move 141 = .ok (.getfield 53, 3) := by decide +kernel
theorem dX7_move_144 : decode cX7_move 144 = .ok (.bipush 40, 2) := by decide +kernel
theorem dX7_move_146 : decode cX7_move 146 = .ok (.iload_n 1, 1) := by decide +kernel
theorem dX7_move_147 : decode cX7_move 147 = .ok (.imul, 1) := by decide +kernel
theorem dX7_move_148 : decode cX7_move 148 = .ok (.iload_n 2, 1) := by decide +kernel
theorem dX7_move_149 : decode cX7_move 149 = .ok (.iadd, 1) := by decide +kernel
theorem dX7_move_150 : decode cX7_move 150 = .ok (.iload 6, 2) := by decide +kernel
theorem dX7_move_152 : decode cX7_move 152 = .ok (.iadd, 1) := by decide +kernel
theorem dX7_move_153 : decode cX7_move 153 = .ok (.iaload, 1) := by decide +kernel
theorem dX7_move_154 : decode cX7_move 154 = .ok (.iastore, 1) := by decide +kernel
theorem dX7_move_155 : decode cX7_move 155 = .ok (.iinc 6 1, 3) := by decide +kernel
theorem dX7_move_158 : decode cX7_move 158 = .ok (.goto (-31), 3) := by decide +kernel
theorem dX7_move_161 : decode cX7_move 161 = .ok (.iconst 0, 1) := by decide +kernel
theorem dX7_move_162 : decode cX7_move 162 = .ok (.istore 6, 2) := by decide +kernel
theorem dX7_move_164 : decode cX7_move 164 = .ok (.iload 6, 2) := by decide +kernel
theorem dX7_move_166 : decode cX7_move 166 = .ok (.iload 5, 2) := by decide +kernel
theorem dX7_move_168 : decode cX7_move 168 = .ok (.if_icmp .ge 31, 3) := by decide +kernel
theorem dX7_move_171 : decode cX7_move 171 = .ok (.aload_n 0, 1) := by decide +kernel
theorem dX7_move_172 : decode cX7_move 172 = .ok (.getfield 53, 3) := by decide +kernel
theorem dX7_move_175 : decode cX7_move 175 = .ok (.bipush 40, 2) := by decide +kernel
theorem dX7_move_177 : decode cX7_move 177 = .ok (.iload_n 3, 1) := by decide +kernel
theorem dX7_move_178 : decode cX7_move 178 = .ok (.imul, 1) := by decide +kernel
theorem dX7_move_179 : decode cX7_move 179 = .ok (.iload 4, 2) := by decide +kernel
theorem dX7_move_181 : decode cX7_move 181 = .ok (.iadd, 1) := by decide +kernel
theorem dX7_move_182 : decode cX7_move 182 = .ok (.iload 6, 2) := by decide +kernel
theorem dX7_move_184 : decode cX7_move 184 = .ok (.iadd, 1) := by decide +kernel
theorem dX7_move_185 : decode cX7_move 185 = .ok (.aload_n 0, 1) := by decide +kernel
theorem dX7_move_186 : decode cX7_move 186 = .ok (.getfield 56, 3) := by decide +kernel
theorem dX7_move_189 : decode cX7_move 189 = .ok (.iload 6, 2) := by decide +kernel
theorem dX7_move_191 : decode cX7_move 191 = .ok (.iaload, 1) := by decide +kernel
theorem dX7_move_192 : decode cX7_move 192 = .ok (.iastore, 1) := by decide +kernel
theorem dX7_move_193 : decode cX7_move 193 = .ok (.iinc 6 1, 3) := by decide +kernel
theorem dX7_move_196 : decode cX7_move 196 = .ok (.goto (-32), 3) := by decide +kernel
theorem dX7_move_199 : decode cX7_move 199 = .ok (.iload 5, 2) := by decide +kernel
theorem dX7_move_201 : decode cX7_move 201 = .ok (.ireturn, 1) := by decide +kernel
theorem dX7_rues_0 : decode cX7_rues 0 = .ok (.iload_n 1, 1) := by decide +kernel
theorem dX7_rues_1 : decode cX7_rues 1 = .ok (.invokestatic 250, 3) := by decide +kernel
theorem dX7_rues_4 : decode cX7_rues 4 = .ok (.ifCond .ne 10, 3) := by decide +kernel
theorem dX7_rues_7 : decode cX7_rues 7 = .ok (.aload_n 0, 1) := by decide +kernel
theorem dX7_rues_8 : decode cX7_rues 8 = .ok (.ldc 77, 2) := by decide +kernel
theorem dX7_rues_10 : decode cX7_rues 10 = .ok (.invokevirtual 78, 3) := by decide +kernel
theorem dX7_rues_13 : decode cX7_rues 13 = .ok (.ireturn, 1) := by decide +kernel
theorem dX7_rues_14 : decode cX7_rues 14 = .ok (.aload_n 0, 1) := by decide +kernel
theorem dX7_rues_15 : decode cX7_rues 15 = .ok (.getfield 47, 3) := by decide +kernel
theorem dX7_rues_18 : decode cX7_rues 18 = .ok (.iload_n 1, 1) := by decide +kernel
theorem dX7_rues_19 : decode cX7_rues 19 = .ok (.iaload, 1) := by decide +kernel
theorem dX7_rues_20 : decode cX7_rues 20 = .ok (.ifCond .ne 10, 3) := by decide +kernel
theorem dX7_rues_23 : decode cX7_rues 23 = .ok (.aload_n 0, 1) := by decide +kernel
theorem dX7_rues_24 : decode cX7_rues 24 = .ok (.ldc 236, 2) := by decide +kernel
theorem dX7_rues_26 : decode cX7_rues 26 = .ok (.invokevirtual 78, 3) := by decide +kernel
theorem dX7_rues_29 : decode cX7_rues 29 = .ok (.ireturn, 1) := by decide +kernel
theorem dX7_rues_30 : decode cX7_rues 30 = .ok (.iconst 0, 1) := by decide +kernel
theorem dX7_rues_31 : decode cX7_rues 31 = .ok (.istore_n 2, 1) := by decide +kernel
theorem dX7_rues_32 : decode cX7_rues 32 = .ok (.iload_n 2, 1) := by decide +kernel
theorem dX7_rues_33 : decode cX7_rues 33 = .ok (.aload_n 0, 1) := by decide +kernel
theorem dX7_rues_34 : decode cX7_rues 34 = .ok (.getfield 50, 3) := by decide +kernel
theorem dX7_rues_37 : decode cX7_rues 37 = .ok (.iload_n 1, 1) := by decide +kernel
theorem dX7_rues_38 : decode cX7_rues 38 = .ok (.iaload, 1) := by decide +kernel
theorem dX7_rues_39 : decode cX7_rues 39 = .ok (.if_icmp .ge 55, 3) := by decide +kernel
theorem dX7_rues_42 : decode cX7_rues 42 = .ok (.aload_n 0, 1) := by decide +kernel
theorem dX7_rues_43 : decode cX7_rues 43 = .ok (.iload_n 2, 1) := by decide +kernel
theorem dX7_rues_44 : decode cX7_rues 44 = .ok (.invokevirtual 159, 3) := by decide +kernel
theorem dX7_rues_47 : decode cX7_rues 47 = .ok (.ifCond .eq 47, 3) := by decide +kernel
theorem dX7_rues_50 : decode cX7_rues 50 = .ok (.aload_n 0, 1) := by decide +kernel
theorem dX7_rues_51 : decode cX7_rues 51 = .ok (.getfield 53, 3) := by decide +kernel
theorem dX7_rues_54 : decode cX7_rues 54 = .ok (.bipush 40, 2) := by decide +kernel
theorem dX7_rues_56 : decode cX7_rues 56 = .ok (.iload_n 1, 1) := by decide +kernel
theorem dX7_rues_57 : decode cX7_rues 57 = .ok (.imul, 1) := by decide +kernel
theorem dX7_rues_58 : decode cX7_rues 58 = .ok (.iload_n 2, 1) := by decide +kernel
theorem dX7_rues_59 : decode cX7_rues 59 = .ok (.iadd, 1) := by decide +kernel
theorem dX7_rues_60 : decode cX7_rues 60 = .ok (.iaload, 1) := by decide +kernel
theorem dX7_rues_61 : decode cX7_rues 61 = .ok (.invokestatic 171, 3) := by decide +kernel
theorem dX7_rues_64 : decode cX7_rues 64 = .ok (.ifCond .eq 30, 3) := by decide +kernel
theorem dX7_rues_67 : decode cX7_rues 67 = .ok (.aload_n 0, 1) := by decide +kernel
theorem dX7_rues_68 : decode cX7_rues 68 = .ok (.getfield 9, 3) := by decide +kernel
theorem dX7_rues_71 : decode cX7_rues 71 = .ok (.iload_n 2, 1) := by decide +kernel
theorem dX7_rues_72 : decode cX7_rues 72 = .ok (.iconst 2, 1) := by decide +kernel
theorem dX7_rues_73 : decode cX7_rues 73 = .ok (.invokestatic 162, 3) := by decide +kernel
theorem dX7_rues_76 : decode cX7_rues 76 = .ok (.aload_n 0, 1) := by decide +kernel
theorem dX7_rues_77 : decode cX7_rues 77 = .ok (.getfield 53, 3) := by decide +kernel
theorem dX7_rues_80 : decode cX7_rues 80 = .ok (.bipush 40, 2) := by decide +kernel
theorem dX7_rues_82 : decode cX7_rues 82 = .ok (.iload_n 1, 1) := by decide +kernel
theorem dX7_rues_83 : decode cX7_rues 83 = .ok (.imul, 1) := by decide +kernel
theorem dX7_rues_84 : decode cX7_rues 84 = .ok (.iload_n 2, 1) := by decide +kernel
theorem dX7_rues_85 : decode cX7_rues 85 = .ok (.iadd, 1) := by decide +kernel
theorem dX7_rues_86 : decode cX7_rues 86 = .ok (.iaload, 1) := by decide +kernel
theorem dX7_rues_87 : decode cX7_rues 87 = .ok (.iastore, 1) := by decide +kernel
theorem dX7_rues_88 : decode cX7_rues 88 = .ok (.iinc 2 1, 3) := by decide +kernel
theorem dX7_rues_91 : decode cX7_rues 91 = .ok (.goto (-59), 3) := by decide +kernel
theorem dX7_rues_94 : decode cX7_rues 94 = .ok (.iload_n 2, 1) := by decide +kernel
theorem dX7_rues_95 : decode cX7_rues 95 = .ok (.ireturn, 1) := by decide +kernel
theorem dX7_judge_0 : decode cX7_judge 0 = .ok (.iload_n 1, 1) := by decide +kernel
theorem dX7_judge_1 : decode cX7_judge 1 = .ok (.invokestatic 250, 3) := by decide +kernel
theorem dX7_judge_4 : decode cX7_judge 4 = .ok (.ifCond .ne 10, 3) := by decide +kernel
theorem dX7_judge_7 : decode cX7_judge 7 = .ok (.aload_n 0, 1) := by decide +kernel
theorem dX7_judge_8 : decode cX7_judge 8 = .ok (.ldc 77, 2) := by decide +kernel
theorem dX7_judge_10 : decode cX7_judge 10 = .ok (.invokevirtual 78, 3) := by decide +kernel
theorem dX7_judge_13 : decode cX7_judge 13 = .ok (.ireturn, 1) := by decide +kernel
theorem dX7_judge_14 : decode cX7_judge 14 = .ok (.aload_n 0, 1) := by decide +kernel
theorem dX7_judge_15 : decode cX7_judge 15 = .ok (.getfield 47, 3) := by decide +kernel
theorem dX7_judge_18 : decode cX7_judge 18 = .ok (.iload_n 1, 1) := by decide +kernel
theorem dX7_judge_19 : decode cX7_judge 19 = .ok (.iaload, 1) := by decide +kernel
theorem dX7_judge_20 : decode cX7_judge 20 = .ok (.ifCond .ne 10, 3) := by decide +kernel
theorem dX7_judge_23 : decode cX7_judge 23 = .ok (.aload_n 0, 1) := by decide +kernel
theorem dX7_judge_24 : decode cX7_judge 24 = .ok (.ldc 236, 2) := by decide +kernel
theorem dX7_judge_26 : decode cX7_judge 26 = .ok (.invokevirtual 78, 3) := by decide +kernel
theorem dX7_judge_29 : decode cX7_judge 29 = .ok (.ireturn, 1) := by decide +kernel
theorem dX7_judge_30 : decode cX7_judge 30 = .ok (.iconst 0, 1) := by decide +kernel
theorem dX7_judge_31 : decode cX7_judge 31 = .ok (.istore_n 2, 1) := by decide +kernel
theorem dX7_judge_32 : decode cX7_judge 32 = .ok (.iload_n 2, 1) := by decide +kernel
theorem dX7_judge_33 : decode cX7_judge 33 = .ok (.aload_n 0, 1) := by decide +kernel
theorem dX7_judge_34 : decode cX7_judge 34 = .ok (.getfield 50, 3) := by decide +kernel
theorem dX7_judge_37 : decode cX7_judge 37 = .ok (.iload_n 1, 1) := by decide +kernel
theorem dX7_judge_38 : decode cX7_judge 38 = .ok (.iaload, 1) := by decide +kernel
theorem dX7_judge_39 : decode cX7_judge 39 = .ok (.if_icmp .ge 39, 3) := by decide +kernel
theorem dX7_judge_42 : decode cX7_judge 42 = .ok (.aload_n 0, 1) := by decide +kernel
theorem dX7_judge_43 : decode cX7_judge 43 = .ok (.iload_n 2, 1) := by decide +kernel
theorem dX7_judge_44 : decode cX7_judge 44 = .ok (.invokevirtual 159, 3) := by decide +kernel
theorem dX7_judge_47 : decode cX7_judge 47 = .ok (.ifCond .eq 31, 3) := by decide +kernel
theorem dX7_judge_50 : decode cX7_judge 50 = .ok (.aload_n 0, 1) := by decide +kernel
theorem dX7_judge_51 : decode cX7_judge 51 = .ok (.getfield 53, 3) := by decide +kernel
theorem dX7_judge_54 : decode cX7_judge 54 = .ok (.bipush 40, 2) := by decide +kernel
theorem dX7_judge_56 : decode cX7_judge 56 = .ok (.iload_n 1, 1) := by decide +kernel
theorem dX7_judge_57 : decode cX7_judge 57 = .ok (.imul, 1) := by decide +kernel
theorem dX7_judge_58 : decode cX7_judge 58 = .ok (.iload_n 2, 1) := by decide +kernel
theorem dX7_judge_59 : decode cX7_judge 59 = .ok (.iadd, 1) := by decide +kernel
theorem dX7_judge_60 : decode cX7_judge 60 = .ok (.iaload, 1) := by decide +kernel
theorem dX7_judge_61 : decode cX7_judge 61 = .ok (.aload_n 0, 1) := by decide +kernel
theorem dX7_judge_62 : decode cX7_judge 62 = .ok (.getfield 9, 3) := by decide +kernel
theorem dX7_judge_65 : decode cX7_judge 65 = .ok (.iconst 5, 1) := by decide +kernel
theorem dX7_judge_66 : decode cX7_judge 66 = .ok (.iload_n 2, 1) := by decide +kernel
theorem dX7_judge_67 : decode cX7_judge 67 = .ok (.iadd, 1) := by decide +kernel
theorem dX7_judge_68 : decode cX7_judge 68 = .ok (.iaload, 1) := by decide +kernel
theorem dX7_judge_69 : decode cX7_judge 69 = .ok (.if_icmp .ne 9, 3) := by decide +kernel
theorem dX7_judge_72 : decode cX7_judge 72 = .ok (.iinc 2 1, 3) := by decide +kernel
theorem dX7_judge_75 : decode cX7_judge 75 = .ok (.goto (-43), 3) := by decide +kernel
theorem dX7_judge_78 : decode cX7_judge 78 = .ok (.iload_n 2, 1) := by decide +kernel
theorem dX7_judge_79 : decode cX7_judge 79 = .ok (.aload_n 0, 1) := by decide +kernel
theorem dX7_judge_80 : decode cX7_judge 80 = .ok (.getfield 50, 3) := by decide +kernel
theorem dX7_judge_83 : decode cX7_judge 83 = .ok (.iload_n 1, 1) := by decide +kernel
theorem dX7_judge_84 : decode cX7_judge 84 = .ok (.iaload, 1) := by decide +kernel
theorem dX7_judge_85 : decode cX7_judge 85 = .ok (.if_icmp .ne 17, 3) := by decide +kernel
theorem dX7_judge_88 : decode cX7_judge 88 = .ok (.iload_n 2, 1) := by decide +kernel
theorem dX7_judge_89 : decode cX7_judge 89 = .ok (.aload_n 0, 1) := by decide +kernel
theorem dX7_judge_90 : decode cX7_judge 90 = .ok (.getfield 9, 3) := by decide +kernel
theorem dX7_judge_93 : decode cX7_judge 93 = .ok (.iconst 1, 1) := by decide +kernel
theorem dX7_judge_94 : decode cX7_judge 94 = .ok (.iaload, 1) := by decide +kernel
theorem dX7_judge_95 : decode cX7_judge 95 = .ok (.if_icmp .ne 7, 3) := by decide +kernel
theorem dX7_judge_98 : decode cX7_judge 98 = .ok (.iconst (-1), 1) := by decide +kernel
theorem dX7_judge_99 : decode cX7_judge 99 = .ok (.goto 4, 3) := by decide +kernel
theorem dX7_judge_102 : decode cX7_judge 102 = .ok (.iload_n 2, 1) := by decide +kernel
theorem dX7_judge_103 : decode cX7_judge 103 = .ok (.ireturn, 1) := by decide +kernel
theorem dX7_image_0 : decode cX7_image 0 = .ok (.aload_n 0, 1) := by decide +kernel
theorem dX7_image_1 : decode cX7_image 1 = .ok (.getfield 9, 3) := by decide +kernel
theorem dX7_image_4 : decode cX7_image 4 = .ok (.aload_n 0, 1) := by decide +kernel
theorem dX7_image_5 : decode cX7_image 5 = .ok (.getfield 13, 3) := by decide +kernel
theorem dX7_image_8 : decode cX7_image 8 = .ok (.invokestatic 69, 3) := by decide +kernel
theorem dX7_image_11 : decode cX7_image 11 = .ok (.aload_n 0, 1) := by decide +kernel
theorem dX7_image_12 : decode cX7_image 12 = .ok (.dup, 1) := by decide +kernel
theorem dX7_image_13 : decode cX7_image 13 = .ok (.getfield 293, 3) := by decide +kernel
theorem dX7_image_16 : decode cX7_image 16 = .ok (.iconst 1, 1) := by decide +kernel
theorem dX7_image_17 : decode cX7_image 17 = .ok (.iadd, 1) := by decide +kernel
theorem dX7_image_18 : decode cX7_image 18 = .ok (.putfield 293, 3) := by decide +kernel
theorem dX7_image_21 : decode cX7_image 21 = .ok (.aload_n 0, 1) := by decide +kernel
theorem dX7_image_22 : decode cX7_image 22 = .ok (.getfield 293, 3) := by decide +kernel
theorem dX7_image_25 : decode cX7_image 25 = .ok (.ireturn, 1) := by decide +kernel
theorem dX7_restore_0 : decode cX7_restore 0 = .ok (.aload_n 0, 1) := by decide +kernel
theorem dX7_restore_1 : decode cX7_restore 1 = .ok (.getfield 293, 3) := by decide +kernel
theorem dX7_restore_4 : decode cX7_restore 4 = .ok (.ifCond .ne 10, 3) := by decide +kernel
theorem dX7_restore_7 : decode cX7_restore 7 = .ok (.aload_n 0, 1) := by decide +kernel
theorem dX7_restore_8 : decode cX7_restore 8 = .ok (.ldc 236, 2) := by decide +kernel
theorem dX7_restore_10 : decode cX7_restore 10 = .ok (.invokevirtual 78, 3) := by decide +kernel
theorem dX7_restore_13 : decode cX7_restore 13 = .ok (.ireturn, 1) := by decide +kernel
theorem dX7_restore_14 : decode cX7_restore 14 = .ok (.aload_n 0, 1) := by decide +kernel
theorem dX7_restore_15 : decode cX7_restore 15 = .ok (.getfield 13, 3) := by decide +kernel
theorem dX7_restore_18 : decode cX7_restore 18 = .ok (.aload_n 0, 1) := by decide +kernel
theorem dX7_restore_19 : decode cX7_restore 19 = .ok (.getfield 9, 3) := by decide +kernel
theorem dX7_restore_22 : decode cX7_restore 22 = .ok (.invokestatic 69, 3) := by decide +kernel
theorem dX7_restore_25 : decode cX7_restore 25 = .ok (.aload_n 0, 1) := by decide +kernel
theorem dX7_restore_26 : decode cX7_restore 26 = .ok (.getfield 9, 3) := by decide +kernel
theorem dX7_restore_29 : decode cX7_restore 29 = .ok (.iconst 0, 1) := by decide +kernel
theorem dX7_restore_30 : decode cX7_restore 30 = .ok (.iaload, 1) := by decide +kernel
theorem dX7_restore_31 : decode cX7_restore 31 = .ok (.ireturn, 1) := by decide +kernel
theorem dX7_tell_0 : decode cX7_tell 0 = .ok (.aload_n 0, 1) := by decide +kernel
theorem dX7_tell_1 : decode cX7_tell 1 = .ok (.getfield 9, 3) := by decide +kernel
theorem dX7_tell_4 : decode cX7_tell 4 = .ok (.iconst 4, 1) := by decide +kernel
theorem dX7_tell_5 : decode cX7_tell 5 = .ok (.iaload, 1) := by decide +kernel
theorem dX7_tell_6 : decode cX7_tell 6 = .ok (.bipush 20, 2) := by decide +kernel
theorem dX7_tell_8 : decode cX7_tell 8 = .ok (.if_icmp .ne 10, 3) := by decide +kernel
theorem dX7_tell_11 : decode cX7_tell 11 = .ok (.aload_n 0, 1) := by decide +kernel
theorem dX7_tell_12 : decode cX7_tell 12 = .ok (.ldc 82, 2) := by decide +kernel
theorem dX7_tell_14 : decode cX7_tell 14 = .ok (.invokevirtual 78, 3) := by decide +kernel
theorem dX7_tell_17 : decode cX7_tell 17 = .ok (.ireturn, 1) := by decide +kernel
theorem dX7_tell_18 : decode cX7_tell 18 = .ok (.aload_n 0, 1) := by decide +kernel
theorem dX7_tell_19 : decode cX7_tell 19 = .ok (.getfield 9, 3) := by decide +kernel
theorem dX7_tell_22 : decode cX7_tell 22 = .ok (.bipush 97, 2) := by decide +kernel
theorem dX7_tell_24 : decode cX7_tell 24 = .ok (.aload_n 0, 1) := by decide +kernel
theorem dX7_tell_25 : decode cX7_tell 25 = .ok (.getfield 9, 3) := by decide +kernel
theorem dX7_tell_28 : decode cX7_tell 28 = .ok (.iconst 4, 1) := by decide +kernel
theorem dX7_tell_29 : decode cX7_tell 29 = .ok (.iaload, 1) := by decide +kernel
theorem dX7_tell_30 : decode cX7_tell 30 = .ok (.iadd, 1) := by decide +kernel
theorem dX7_tell_31 : decode cX7_tell 31 = .ok (.iload_n 1, 1) := by decide +kernel
theorem dX7_tell_32 : decode cX7_tell 32 = .ok (.iastore, 1) := by decide +kernel
theorem dX7_tell_33 : decode cX7_tell 33 = .ok (.aload_n 0, 1) := by decide +kernel
theorem dX7_tell_34 : decode cX7_tell 34 = .ok (.getfield 9, 3) := by decide +kernel
theorem dX7_tell_37 : decode cX7_tell 37 = .ok (.iconst 4, 1) := by decide +kernel
theorem dX7_tell_38 : decode cX7_tell 38 = .ok (.dup2, 1) := by decide +kernel
theorem dX7_tell_39 : decode cX7_tell 39 = .ok (.iaload, 1) := by decide +kernel
theorem dX7_tell_40 : decode cX7_tell 40 = .ok (.iconst 1, 1) := by decide +kernel
theorem dX7_tell_41 : decode cX7_tell 41 = .ok (.iadd, 1) := by decide +kernel
theorem dX7_tell_42 : decode cX7_tell 42 = .ok (.iastore, 1) := by decide +kernel
theorem dX7_tell_43 : decode cX7_tell 43 = .ok (.aload_n 0, 1) := by decide +kernel
theorem dX7_tell_44 : decode cX7_tell 44 = .ok (.getfield 9, 3) := by decide +kernel
theorem dX7_tell_47 : decode cX7_tell 47 = .ok (.iconst 4, 1) := by decide +kernel
theorem dX7_tell_48 : decode cX7_tell 48 = .ok (.iaload, 1) := by decide +kernel
theorem dX7_tell_49 : decode cX7_tell 49 = .ok (.ireturn, 1) := by decide +kernel
theorem dX7_check_0 : decode cX7_check 0 = .ok (.aload_n 0, 1) := by decide +kernel
theorem dX7_check_1 : decode cX7_check 1 = .ok (.getfield 9, 3) := by decide +kernel
theorem dX7_check_4 : decode cX7_check 4 = .ok (.iconst 4, 1) := by decide +kernel
theorem dX7_check_5 : decode cX7_check 5 = .ok (.iaload, 1) := by decide +kernel
theorem dX7_check_6 : decode cX7_check 6 = .ok (.istore_n 1, 1) := by decide +kernel
theorem dX7_check_7 : decode cX7_check 7 = .ok (.aload_n 0, 1) := by decide +kernel
theorem dX7_check_8 : decode cX7_check 8 = .ok (.getfield 9, 3) := by decide +kernel
theorem dX7_check_11 : decode cX7_check 11 = .ok (.iconst 4, 1) := by decide +kernel
theorem dX7_check_12 : decode cX7_check 12 = .ok (.iconst 0, 1) := by decide +kernel
theorem dX7_check_13 : decode cX7_check 13 = .ok (.iastore, 1) := by decide +kernel
theorem dX7_check_14 : decode cX7_check 14 = .ok (.aload_n 0, 1) := by decide +kernel
theorem dX7_check_15 : decode cX7_check 15 = .ok (.getfield 9, 3) := by decide +kernel
theorem dX7_check_18 : decode cX7_check 18 = .ok (.aload_n 0, 1) := by decide +kernel
theorem dX7_check_19 : decode cX7_check 19 = .ok (.getfield 16, 3) := by decide +kernel
theorem dX7_check_22 : decode cX7_check 22 = .ok (.invokestatic 69, 3) := by decide +kernel
theorem dX7_check_25 : decode cX7_check 25 = .ok (.iconst 0, 1) := by decide +kernel
theorem dX7_check_26 : decode cX7_check 26 = .ok (.istore_n 2, 1) := by decide +kernel
theorem dX7_check_27 : decode cX7_check 27 = .ok (.iconst 0, 1) := by decide +kernel
theorem dX7_check_28 : decode cX7_check 28 = .ok (.istore_n 3, 1) := by decide +kernel
theorem dX7_check_29 : decode cX7_check 29 = .ok (.iload_n 3, 1) := by decide +kernel
theorem dX7_check_30 : decode cX7_check 30 = .ok (.iload_n 1, 1) := by decide +kernel
theorem dX7_check_31 : decode cX7_check 31 = .ok (.if_icmp .ge 42, 3) := by decide +kernel
theorem dX7_check_34 : decode cX7_check 34 = .ok (.iload_n 2, 1) := by decide +kernel
theorem dX7_check_35 : decode cX7_check 35 = .ok (.ifCond .ne 38, 3) := by decide +kernel
theorem dX7_check_38 : decode cX7_check 38 = .ok (.aload_n 0, 1) := by decide +kernel
theorem dX7_check_39 : decode cX7_check 39 = .ok (.invokevirtual 214, 3) := by decide +kernel
theorem dX7_check_42 : decode cX7_check 42 = .ok (.aload_n 0, 1) := by decide +kernel
theorem dX7_check_43 : decode cX7_check 43 = .ok (.getfield 9, 3) := by decide +kernel
theorem dX7_check_46 : decode cX7_check 46 = .ok (.bipush 97, 2) := by decide +kernel
theorem dX7_check_48 : decode cX7_check 48 = .ok (.iload_n 3, 1) := by decide +kernel
theorem dX7_check_49 : decode cX7_check 49 = .ok (.iadd, 1) := by decide +kernel
theorem dX7_check_50 : decode cX7_check 50 = .ok (.iaload, 1) := by decide +kernel
theorem dX7_check_51 : decode cX7_check 51 = .ok (.aload_n 0, 1) := by decide +kernel
theorem dX7_check_52 : decode cX7_check 52 = .ok (.iconst 2, 1) := by decide +kernel
theorem dX7_check_53 : decode cX7_check 53 = .ok (.invokevirtual 220, 3) := by decide +kernel
theorem dX7_check_56 : decode cX7_check 56 = .ok (.if_icmp .ne 7, 3) := by decide +kernel
theorem dX7_check_59 : decode cX7_check 59 = .ok (.iconst 0, 1) := by decide +kernel
theorem dX7_check_60 : decode cX7_check 60 = .ok (.goto 6, 3) := by decide +kernel
theorem dX7_check_63 : decode cX7_check 63 = .ok (.iconst 1, 1) := by decide +kernel
theorem dX7_check_64 : decode cX7_check 64 = .ok (.iload_n 3, 1) := by decide +kernel
theorem dX7_check_65 : decode cX7_check 65 = .ok (.iadd, 1) := by decide +kernel
theorem dX7_check_66 : decode cX7_check 66 = .ok (.istore_n 2, 1) := by decide +kernel
theorem dX7_check_67 : decode cX7_check 67 = .ok (.iinc 3 1, 3) := by decide +kernel
theorem dX7_check_70 : decode cX7_check 70 = .ok (.goto (-41), 3) := by decide +kernel
theorem dX7_check_73 : decode cX7_check 73 = .ok (.aload_n 0, 1) := by decide +kernel
theorem dX7_check_74 : decode cX7_check 74 = .ok (.iload_n 2, 1) := by decide +kernel
theorem dX7_check_75 : decode cX7_check 75 = .ok (.invokevirtual 233, 3) := by decide +kernel
theorem dX7_check_78 : decode cX7_check 78 = .ok (.ireturn, 1) := by decide +kernel
theorem dX7_idleOnes_0 : decode cX7_idleOnes 0 = .ok (.iconst 0, 1) := by decide +kernel
theorem dX7_idleOnes_1 : decode cX7_idleOnes 1 = .ok (.istore_n 1, 1) := by decide +kernel
theorem dX7_idleOnes_2 : decode cX7_idleOnes 2 = .ok (.iconst 0, 1) := by decide +kernel
theorem dX7_idleOnes_3 : decode cX7_idleOnes 3 = .ok (.istore_n 2, 1) := by decide +kernel
theorem dX7_idleOnes_4 : decode cX7_idleOnes 4 = .ok (.iload_n 2, 1) := by decide +kernel
theorem dX7_idleOnes_5 : decode cX7_idleOnes 5 = .ok (.aload_n 0, 1) := by decide +kernel
theorem dX7_idleOnes_6 : decode cX7_idleOnes 6 = .ok (.getfield 9, 3) := by decide +kernel
theorem dX7_idleOnes_9 : decode cX7_idleOnes 9 = .ok (.iconst 1, 1) := by decide +kernel
theorem dX7_idleOnes_10 : decode cX7_idleOnes 10 = .ok (.iaload, 1) := by decide +kernel
theorem dX7_idleOnes_11 : decode cX7_idleOnes 11 = .ok (.if_icmp .ge 20, 3) := by decide +kernel
theorem dX7_idleOnes_14 : decode cX7_idleOnes 14 = .ok (.iload_n 1, 1) := by decide +kernel
theorem dX7_idleOnes_15 : decode cX7_idleOnes 15 = .ok (.aload_n 0, 1) := by decide +kernel
theorem dX7_idleOnes_16 : decode cX7_idleOnes 16 = .ok (.iload_n 2, 1) := by decide +kernel
theorem dX7_idleOnes_17 : decode cX7_idleOnes 17 = .ok (.iconst 4, 1) := by decide +kernel
theorem dX7_idleOnes_18 : decode cX7_idleOnes 18 = .ok (.invokevirtual 165, 3) := by decide +kernel
theorem dX7_idleOnes_21 : decode cX7_idleOnes 21 = .ok (.iload_n 2, 1) := by decide +kernel
theorem dX7_idleOnes_22 : decode cX7_idleOnes 22 = .ok (.ishl, 1) := by decide +kernel
theorem dX7_idleOnes_23 : decode cX7_idleOnes 23 = .ok (.ior, 1) := by decide +kernel
theorem dX7_idleOnes_24 : decode cX7_idleOnes 24 = .ok (.istore_n 1, 1) := by decide +kernel
theorem dX7_idleOnes_25 : decode cX7_idleOnes 25 = .ok (.iinc 2 1, 3) := by decide +kernel
theorem dX7_idleOnes_28 : decode cX7_idleOnes 28 = .ok (.goto (-24), 3) := by decide +kernel
theorem dX7_idleOnes_31 : decode cX7_idleOnes 31 = .ok (.iload_n 1, 1) := by decide +kernel
theorem dX7_idleOnes_32 : decode cX7_idleOnes 32 = .ok (.ireturn, 1) := by decide +kernel
theorem dX7_count_0 : decode cX7_count 0 = .ok (.iload_n 1, 1) := by decide +kernel
theorem dX7_count_1 : decode cX7_count 1 = .ok (.tableswitch 141 0 9 #[55, 62, 69, 75, 81, 86, 115, 122, 129, 134], 55) := by decide +kernel
theorem dX7_count_56 : decode cX7_count 56 = .ok (.aload_n 0, 1) := by decide +kernel
theorem dX7_count_57 : decode cX7_count 57 = .ok (.getfield 9, 3) := by decide +kernel
theorem dX7_count_60 : decode cX7_count 60 = .ok (.iconst 1, 1) := by decide +kernel
theorem dX7_count_61 : decode cX7_count 61 = .ok (.iaload, 1) := by decide +kernel
theorem dX7_count_62 : decode cX7_count 62 = .ok (.ireturn, 1) := by decide +kernel
theorem dX7_count_63 : decode cX7_count 63 = .ok (.aload_n 0, 1) := by decide +kernel
theorem dX7_count_64 : decode cX7_count 64 = .ok (.getfield 9, 3) := by decide +kernel
theorem dX7_count_67 : decode cX7_count 67 = .ok (.iconst 0, 1) := by decide +kernel
theorem dX7_count_68 : decode cX7_count 68 = .ok (.iaload, 1) := by decide +kernel
theorem dX7_count_69 : decode cX7_count 69 = .ok (.ireturn, 1) := by decide +kernel
theorem dX7_count_70 : decode cX7_count 70 = .ok (.aload_n 0, 1) := by decide +kernel
theorem dX7_count_71 : decode cX7_count 71 = .ok (.iconst 2, 1) := by decide +kernel
theorem dX7_count_72 : decode cX7_count 72 = .ok (.invokevirtual 220, 3) := by decide +kernel
theorem dX7_count_75 : decode cX7_count 75 = .ok (.ireturn, 1) := by decide +kernel
theorem dX7_count_76 : decode cX7_count 76 = .ok (.aload_n 0, 1) := by decide +kernel
theorem dX7_count_77 : decode cX7_count 77 = .ok (.iconst 3, 1) := by decide +kernel
theorem dX7_count_78 : decode cX7_count 78 = .ok (.invokevirtual 220, 3) := by decide +kernel
theorem dX7_count_81 : decode cX7_count 81 = .ok (.ireturn, 1) := by decide +kernel
theorem dX7_count_82 : decode cX7_count 82 = .ok (.aload_n 0, 1) := by decide +kernel
theorem dX7_count_83 : decode cX7_count 83 = .ok (.invokevirtual 296, 3) := by decide +kernel
theorem dX7_count_86 : decode cX7_count 86 = .ok (.ireturn, 1) := by decide +kernel
theorem dX7_count_87 : decode cX7_count 87 = .ok (.aload_n 0, 1) := by decide +kernel
theorem dX7_count_88 : decode cX7_count 88 = .ok (.getfield 9, 3) := by decide +kernel
theorem dX7_count_91 : decode cX7_count 91 = .ok (.iconst 1, 1) := by decide +kernel
theorem dX7_count_92 : decode cX7_count 92 = .ok (.iaload, 1) := by decide +kernel
theorem dX7_count_93 : decode cX7_count 93 = .ok (.ifCond .ne 7, 3) := by decide +kernel
theorem dX7_count_96 : decode cX7_count 96 = .ok (.iconst (-1), 1) := by decide +kernel
theorem dX7_count_97 : decode cX7_count 97 = .ok (.goto 18, 3) := by decide +kernel
theorem dX7_count_100 : decode cX7_count 100 = .ok (.aload_n 0, 1) := by decide +kernel
theorem dX7_count_101 : decode cX7_count 101 = .ok (.getfield 9, 3) := by decide +kernel
theorem dX7_count_104 : decode cX7_count 104 = .ok (.iconst 5, 1) := by decide +kernel
theorem dX7_count_105 : decode cX7_count 105 = .ok (.aload_n 0, 1) := by decide +kernel
theorem dX7_count_106 : decode cX7_count 106 = .ok (.getfield 9, 3) := by decide +kernel
theorem dX7_count_109 : decode cX7_count 109 = .ok (.iconst 1, 1) := by decide +kernel
theorem dX7_count_110 : decode cX7_count 110 = .ok (.iaload, 1) := by decide +kernel
theorem dX7_count_111 : decode cX7_count 111 = .ok (.iadd, 1) := by decide +kernel
theorem dX7_count_112 : decode cX7_count 112 = .ok (.iconst 1, 1) := by decide +kernel
theorem dX7_count_113 : decode cX7_count 113 = .ok (.isub, 1) := by decide +kernel
theorem dX7_count_114 : decode cX7_count 114 = .ok (.iaload, 1) := by decide +kernel
theorem dX7_count_115 : decode cX7_count 115 = .ok (.ireturn, 1) := by decide +kernel
theorem dX7_count_116 : decode cX7_count 116 = .ok (.aload_n 0, 1) := by decide +kernel
theorem dX7_count_117 : decode cX7_count 117 = .ok (.getfield 9, 3) := by decide +kernel
theorem dX7_count_120 : decode cX7_count 120 = .ok (.iconst 3, 1) := by decide +kernel
theorem dX7_count_121 : decode cX7_count 121 = .ok (.iaload, 1) := by decide +kernel
theorem dX7_count_122 : decode cX7_count 122 = .ok (.ireturn, 1) := by decide +kernel
theorem dX7_count_123 : decode cX7_count 123 = .ok (.aload_n 0, 1) := by decide +kernel
theorem dX7_count_124 : decode cX7_count 124 = .ok (.getfield 9, 3) := by decide +kernel
theorem dX7_count_127 : decode cX7_count 127 = .ok (.iconst 4, 1) := by decide +kernel
theorem dX7_count_128 : decode cX7_count 128 = .ok (.iaload, 1) := by decide +kernel
theorem dX7_count_129 : decode cX7_count 129 = .ok (.ireturn, 1) := by decide +kernel
theorem dX7_count_130 : decode cX7_count 130 = .ok (.aload_n 0, 1) := by decide +kernel
theorem dX7_count_131 : decode cX7_count 131 = .ok (.getfield 263, 3) := by decide +kernel
theorem dX7_count_134 : decode cX7_count 134 = .ok (.ireturn, 1) := by decide +kernel
theorem dX7_count_135 : decode cX7_count 135 = .ok (.aload_n 0, 1) := by decide +kernel
theorem dX7_count_136 : decode cX7_count 136 = .ok (.getfield 9, 3) := by decide +kernel
theorem dX7_count_139 : decode cX7_count 139 = .ok (.iconst 2, 1) := by decide +kernel
theorem dX7_count_140 : decode cX7_count 140 = .ok (.iaload, 1) := by decide +kernel
theorem dX7_count_141 : decode cX7_count 141 = .ok (.ireturn, 1) := by decide +kernel
theorem dX7_count_142 : decode cX7_count 142 = .ok (.aload_n 0, 1) := by decide +kernel
theorem dX7_count_143 : decode cX7_count 143 = .ok (.ldc 77, 2) := by decide +kernel
theorem dX7_count_145 : decode cX7_count 145 = .ok (.invokevirtual 78, 3) := by decide +kernel
theorem dX7_count_148 : decode cX7_count 148 = .ok (.ireturn, 1) := by decide +kernel
theorem dX7_told_0 : decode cX7_told 0 = .ok (.iload_n 1, 1) := by decide +kernel
theorem dX7_told_1 : decode cX7_told 1 = .ok (.iconst 1, 1) := by decide +kernel
theorem dX7_told_2 : decode cX7_told 2 = .ok (.iconst 5, 1) := by decide +kernel
theorem dX7_told_3 : decode cX7_told 3 = .ok (.invokestatic 73, 3) := by decide +kernel
theorem dX7_told_6 : decode cX7_told 6 = .ok (.ifCond .eq 12, 3) := by decide +kernel
theorem dX7_told_9 : decode cX7_told 9 = .ok (.aload_n 0, 1) := by decide +kernel
theorem dX7_told_10 : decode cX7_told 10 = .ok (.getfield 19, 3) := by decide +kernel
theorem dX7_told_13 : decode cX7_told 13 = .ok (.iload_n 1, 1) := by decide +kernel
theorem dX7_told_14 : decode cX7_told 14 = .ok (.iaload, 1) := by decide +kernel
theorem dX7_told_15 : decode cX7_told 15 = .ok (.goto 9, 3) := by decide +kernel
theorem dX7_told_18 : decode cX7_told 18 = .ok (.aload_n 0, 1) := by decide +kernel
theorem dX7_told_19 : decode cX7_told 19 = .ok (.ldc 77, 2) := by decide +kernel
theorem dX7_told_21 : decode cX7_told 21 = .ok (.invokevirtual 78, 3) := by decide +kernel
theorem dX7_told_24 : decode cX7_told 24 = .ok (.ireturn, 1) := by decide +kernel
