theorem dX12_init_0 : decode cX12_init 0 = .ok (.aload_n 0, 1) := by decide +kernel
theorem dX12_init_1 : decode cX12_init 1 = .ok (.invokespecial 3, 3) := by decide +kernel
theorem dX12_init_4 : decode cX12_init 4 = .ok (.aload_n 0, 1) := by decide +kernel
theorem dX12_init_5 : decode cX12_init 5 = .ok (.iconst (-1), 1) := by decide +kernel
theorem dX12_init_6 : decode cX12_init 6 = .ok (.putfield 9, 3) := by decide +kernel
theorem dX12_init_9 : decode cX12_init 9 = .ok (.aload_n 0, 1) := by decide +kernel
theorem dX12_init_10 : decode cX12_init 10 = .ok (.sipush 500, 3) := by decide +kernel
theorem dX12_init_13 : decode cX12_init 13 = .ok (.newarray .int, 2) := by decide +kernel
theorem dX12_init_15 : decode cX12_init 15 = .ok (.putfield 13, 3) := by decide +kernel
theorem dX12_init_18 : decode cX12_init 18 = .ok (.aload_n 0, 1) := by decide +kernel
theorem dX12_init_19 : decode cX12_init 19 = .ok (.sipush 534, 3) := by decide +kernel
theorem dX12_init_22 : decode cX12_init 22 = .ok (.newarray .int, 2) := by decide +kernel
theorem dX12_init_24 : decode cX12_init 24 = .ok (.putfield 17, 3) := by decide +kernel
theorem dX12_init_27 : decode cX12_init 27 = .ok (.aload_n 0, 1) := by decide +kernel
theorem dX12_init_28 : decode cX12_init 28 = .ok (.sipush 534, 3) := by decide +kernel
theorem dX12_init_31 : decode cX12_init 31 = .ok (.newarray .int, 2) := by decide +kernel
theorem dX12_init_33 : decode cX12_init 33 = .ok (.putfield 20, 3) := by decide +kernel
theorem dX12_init_36 : decode cX12_init 36 = .ok (.aload_n 0, 1) := by decide +kernel
theorem dX12_init_37 : decode cX12_init 37 = .ok (.sipush 534, 3) := by decide +kernel
theorem dX12_init_40 : decode cX12_init 40 = .ok (.newarray .int, 2) := by decide +kernel
theorem dX12_init_42 : decode cX12_init 42 = .ok (.putfield 23, 3) := by decide +kernel
theorem dX12_init_45 : decode cX12_init 45 = .ok (.aload_n 0, 1) := by decide +kernel
theorem dX12_init_46 : decode cX12_init 46 = .ok (.sipush 5340, 3) := by decide +kernel
theorem dX12_init_49 : decode cX12_init 49 = .ok (.newarray .int, 2) := by decide +kernel
theorem dX12_init_51 : decode cX12_init 51 = .ok (.putfield 26, 3) := by decide +kernel
theorem dX12_init_54 : decode cX12_init 54 = .ok (.aload_n 0, 1) := by decide +kernel
theorem dX12_init_55 : decode cX12_init 55 = .ok (.sipush 1068, 3) := by decide +kernel
theorem dX12_init_58 : decode cX12_init 58 = .ok (.newarray .int, 2) := by decide +kernel
theorem dX12_init_60 : decode cX12_init 60 = .ok (.putfield 29, 3) := by decide +kernel
theorem dX12_init_63 : decode cX12_init 63 = .ok (.aload_n 0, 1) := by decide +kernel
theorem dX12_init_64 : decode cX12_init 64 = .ok (.iconst 4, 1) := by decide +kernel
theorem dX12_init_65 : decode cX12_init 65 = .ok (.newarray .long, 2) := by decide +kernel
theorem dX12_init_67 : decode cX12_init 67 = .ok (.putfield 32, 3) := by decide +kernel
theorem dX12_init_70 : decode cX12_init 70 = .ok (.aload_n 0, 1) := by decide +kernel
theorem dX12_init_71 : decode cX12_init 71 = .ok (.bipush 8, 2) := by decide +kernel
theorem dX12_init_73 : decode cX12_init 73 = .ok (.newarray .long, 2) := by decide +kernel
theorem dX12_init_75 : decode cX12_init 75 = .ok (.putfield 36, 3) := by decide +kernel
theorem dX12_init_78 : decode cX12_init 78 = .ok (.aload_n 0, 1) := by decide +kernel
theorem dX12_init_79 : decode cX12_init 79 = .ok (.iconst 2, 1) := by decide +kernel
theorem dX12_init_80 : decode cX12_init 80 = .ok (.newarray .boolean, 2) := by decide +kernel
theorem dX12_init_82 : decode cX12_init 82 = .ok (.putfield 39, 3) := by decide +kernel
theorem dX12_init_85 : decode cX12_init 85 = .ok (.aload_n 0, 1) := by decide +kernel
theorem dX12_init_86 : decode cX12_init 86 = .ok (.bipush 16, 2) := by decide +kernel
theorem dX12_init_88 : decode cX12_init 88 = .ok (.newarray .int, 2) := by decide +kernel
theorem dX12_init_90 : decode cX12_init 90 = .ok (.putfield 43, 3) := by decide +kernel
theorem dX12_init_93 : decode cX12_init 93 = .ok (.aload_n 0, 1) := by decide +kernel
theorem dX12_init_94 : decode cX12_init 94 = .ok (.bipush 16, 2) := by decide +kernel
theorem dX12_init_96 : decode cX12_init 96 = .ok (.newarray .int, 2) := by decide +kernel
theorem dX12_init_98 : decode cX12_init 98 = .ok (.putfield 46, 3) := by decide +kernel
theorem dX12_init_101 : decode cX12_init 101 = .ok (.aload_n 0, 1) := by decide +kernel
theorem dX12_init_102 : decode cX12_init 102 = .ok (.bipush 84, 2) := by decide +kernel
theorem dX12_init_104 : decode cX12_init 104 = .ok (.newarray .int, 2) := by decide +kernel
theorem dX12_init_106 : decode cX12_init 106 = .ok (.putfield 49, 3) := by decide +kernel
theorem dX12_init_109 : decode cX12_init 109 = .ok (.aload_n 0, 1) := by decide +kernel
theorem dX12_init_110 : decode cX12_init 110 = .ok (.iconst 5, 1) := by decide +kernel
theorem dX12_init_111 : decode cX12_init 111 = .ok (.newarray .int, 2) := by decide +kernel
theorem dX12_init_113 : decode cX12_init 113 = .ok (.putfield 52, 3) := by decide +kernel
theorem dX12_init_116 : decode cX12_init 116 = .ok (.aload_n 0, 1) := by decide +kernel
theorem dX12_init_117 : decode cX12_init 117 = .ok (.iconst 4, 1) := by decide +kernel
theorem dX12_init_118 : decode cX12_init 118 = .ok (.newarray .int, 2) := by decide +kernel
theorem dX12_init_120 : decode cX12_init 120 = .ok (.putfield 55, 3) := by decide +kernel
theorem dX12_init_123 : decode cX12_init 123 = .ok (.aload_n 0, 1) := by decide +kernel
theorem dX12_init_124 : decode cX12_init 124 = .ok (.iconst 4, 1) := by decide +kernel
theorem dX12_init_125 : decode cX12_init 125 = .ok (.newarray .int, 2) := by decide +kernel
theorem dX12_init_127 : decode cX12_init 127 = .ok (.putfield 58, 3) := by decide +kernel
theorem dX12_init_130 : decode cX12_init 130 = .ok (.aload_n 0, 1) := by decide +kernel
theorem dX12_init_131 : decode cX12_init 131 = .ok (.iconst 4, 1) := by decide +kernel
theorem dX12_init_132 : decode cX12_init 132 = .ok (.newarray .int, 2) := by decide +kernel
theorem dX12_init_134 : decode cX12_init 134 = .ok (.putfield 61, 3) := by decide +kernel
theorem dX12_init_137 : decode cX12_init 137 = .ok (.aload_n 0, 1) := by decide +kernel
theorem dX12_init_138 : decode cX12_init 138 = .ok (.iconst (-1), 1) := by decide +kernel
theorem dX12_init_139 : decode cX12_init 139 = .ok (.putfield 64, 3) := by decide +kernel
theorem dX12_init_142 : decode cX12_init 142 = .ok (.aload_n 0, 1) := by decide +kernel
theorem dX12_init_143 : decode cX12_init 143 = .ok (.iconst 4, 1) := by decide +kernel
theorem dX12_init_144 : decode cX12_init 144 = .ok (.newarray .int, 2) := by decide +kernel
theorem dX12_init_146 : decode cX12_init 146 = .ok (.putfield 67, 3) := by decide +kernel
theorem dX12_init_149 : decode cX12_init 149 = .ok (.aload_n 0, 1) := by decide +kernel
theorem dX12_init_150 : decode cX12_init 150 = .ok (.bipush 12, 2) := by decide +kernel
theorem dX12_init_152 : decode cX12_init 152 = .ok (.newarray .int, 2) := by decide +kernel
theorem dX12_init_154 : decode cX12_init 154 = .ok (.putfield 70, 3) := by decide +kernel
theorem dX12_init_157 : decode cX12_init 157 = .ok (.return_, 1) := by decide +kernel
theorem dX12_thrown_0 : decode cX12_thrown 0 = .ok (.aload_n 0, 1) := by decide +kernel
theorem dX12_thrown_1 : decode cX12_thrown 1 = .ok (.getfield 73, 3) := by decide +kernel
theorem dX12_thrown_4 : decode cX12_thrown 4 = .ok (.ireturn, 1) := by decide +kernel
theorem dX12_refused_0 : decode cX12_refused 0 = .ok (.aload_n 0, 1) := by decide +kernel
theorem dX12_refused_1 : decode cX12_refused 1 = .ok (.iload_n 1, 1) := by decide +kernel
theorem dX12_refused_2 : decode cX12_refused 2 = .ok (.putfield 76, 3) := by decide +kernel
theorem dX12_refused_5 : decode cX12_refused 5 = .ok (.aload_n 0, 1) := by decide +kernel
theorem dX12_refused_6 : decode cX12_refused 6 = .ok (.iconst (-1), 1) := by decide +kernel
theorem dX12_refused_7 : decode cX12_refused 7 = .ok (.putfield 9, 3) := by decide +kernel
theorem dX12_refused_10 : decode cX12_refused 10 = .ok (.iconst (-1), 1) := by decide +kernel
theorem dX12_refused_11 : decode cX12_refused 11 = .ok (.ireturn, 1) := by decide +kernel
theorem dX12_tells_0 : decode cX12_tells 0 = .ok (.aload_n 0, 1) := by decide +kernel
theorem dX12_tells_1 : decode cX12_tells 1 = .ok (.iconst 0, 1) := by decide +kernel
theorem dX12_tells_2 : decode cX12_tells 2 = .ok (.putfield 76, 3) := by decide +kernel
theorem dX12_tells_5 : decode cX12_tells 5 = .ok (.aload_n 0, 1) := by decide +kernel
theorem dX12_tells_6 : decode cX12_tells 6 = .ok (.iconst (-1), 1) := by decide +kernel
theorem dX12_tells_7 : decode cX12_tells 7 = .ok (.putfield 9, 3) := by decide +kernel
theorem dX12_tells_10 : decode cX12_tells 10 = .ok (.iload_n 1, 1) := by decide +kernel
theorem dX12_tells_11 : decode cX12_tells 11 = .ok (.ireturn, 1) := by decide +kernel
theorem dX12_granted_0 : decode cX12_granted 0 = .ok (.aload_n 0, 1) := by decide +kernel
theorem dX12_granted_1 : decode cX12_granted 1 = .ok (.iload_n 1, 1) := by decide +kernel
theorem dX12_granted_2 : decode cX12_granted 2 = .ok (.putfield 76, 3) := by decide +kernel
theorem dX12_granted_5 : decode cX12_granted 5 = .ok (.aload_n 0, 1) := by decide +kernel
theorem dX12_granted_6 : decode cX12_granted 6 = .ok (.iconst (-1), 1) := by decide +kernel
theorem dX12_granted_7 : decode cX12_granted 7 = .ok (.putfield 9, 3) := by decide +kernel
theorem dX12_granted_10 : decode cX12_granted 10 = .ok (.iload_n 1, 1) := by decide +kernel
theorem dX12_granted_11 : decode cX12_granted 11 = .ok (.ifCond .ne 7, 3) := by decide +kernel
theorem dX12_granted_14 : decode cX12_granted 14 = .ok (.iconst 1, 1) := by decide +kernel
theorem dX12_granted_15 : decode cX12_granted 15 = .ok (.goto 4, 3) := by decide +kernel
theorem dX12_granted_18 : decode cX12_granted 18 = .ok (.iconst 0, 1) := by decide +kernel
theorem dX12_granted_19 : decode cX12_granted 19 = .ok (.ireturn, 1) := by decide +kernel
theorem dX12_in_0 : decode cX12_in 0 = .ok (.iload_n 0, 1) := by decide +kernel
theorem dX12_in_1 : decode cX12_in 1 = .ok (.iload_n 1, 1) := by decide +kernel
theorem dX12_in_2 : decode cX12_in 2 = .ok (.if_icmp .lt 12, 3) := by decide +kernel
theorem dX12_in_5 : decode cX12_in 5 = .ok (.iload_n 0, 1) := by decide +kernel
theorem dX12_in_6 : decode cX12_in 6 = .ok (.iload_n 2, 1) := by decide +kernel
theorem dX12_in_7 : decode cX12_in 7 = .ok (.if_icmp .gt 7, 3) := by decide +kernel
theorem dX12_in_10 : decode cX12_in 10 = .ok (.iconst 1, 1) := by decide +kernel
theorem dX12_in_11 : decode cX12_in 11 = .ok (.goto 4, 3) := by decide +kernel
theorem dX12_in_14 : decode cX12_in 14 = .ok (.iconst 0, 1) := by decide +kernel
theorem dX12_in_15 : decode cX12_in 15 = .ok (.ireturn, 1) := by decide +kernel
theorem dX12_feed_0 : decode cX12_feed 0 = .ok (.aload_n 0, 1) := by decide +kernel
theorem dX12_feed_1 : decode cX12_feed 1 = .ok (.iconst 0, 1) := by decide +kernel
theorem dX12_feed_2 : decode cX12_feed 2 = .ok (.putfield 73, 3) := by decide +kernel
theorem dX12_feed_5 : decode cX12_feed 5 = .ok (.aload_n 0, 1) := by decide +kernel
theorem dX12_feed_6 : decode cX12_feed 6 = .ok (.getfield 79, 3) := by decide +kernel
theorem dX12_feed_9 : decode cX12_feed 9 = .ok (.bipush 20, 2) := by decide +kernel
theorem dX12_feed_11 : decode cX12_feed 11 = .ok (.iadd, 1) := by decide +kernel
theorem dX12_feed_12 : decode cX12_feed 12 = .ok (.sipush 500, 3) := by decide +kernel
theorem dX12_feed_15 : decode cX12_feed 15 = .ok (.if_icmp .le 5, 3) := by decide +kernel
theorem dX12_feed_18 : decode cX12_feed 18 = .ok (.iconst (-1), 1) := by decide +kernel
theorem dX12_feed_19 : decode cX12_feed 19 = .ok (.ireturn, 1) := by decide +kernel
theorem dX12_feed_20 : decode cX12_feed 20 = .ok (.iconst 0, 1) := by decide +kernel
theorem dX12_feed_21 : decode cX12_feed 21 = .ok (.istore 6, 2) := by decide +kernel
theorem dX12_feed_23 : decode cX12_feed 23 = .ok (.iload 6, 2) := by decide +kernel
theorem dX12_feed_25 : decode cX12_feed 25 = .ok (.bipush 20, 2) := by decide +kernel
theorem dX12_feed_27 : decode cX12_feed 27 = .ok (.if_icmp .ge 86, 3) := by decide +kernel
theorem dX12_feed_30 : decode cX12_feed 30 = .ok (.iload 6, 2) := by decide +kernel
theorem dX12_feed_32 : decode cX12_feed 32 = .ok (.iconst 4, 1) := by decide +kernel
theorem dX12_feed_33 : decode cX12_feed 33 = .ok (.if_icmp .ge 7, 3) := by decide +kernel
theorem dX12_feed_36 : decode cX12_feed 36 = .ok (.iload_n 1, 1) := by decide +kernel
theorem dX12_feed_37 : decode cX12_feed 37 = .ok (.goto 39, 3) := by decide +kernel
theorem dX12_feed_40 : decode cX12_feed 40 = .ok (.iload 6, 2) := by decide +kernel
theorem dX12_feed_42 : decode cX12_feed 42 = .ok (.bipush 8, 2) := by decide +kernel
theorem dX12_feed_44 : decode cX12_feed 44 = .ok (.if_icmp .ge 7, 3) := by decide +kernel
theorem dX12_feed_47 : decode cX12_feed 47 = .ok (.iload_n 2, 1) := by decide +kernel
theorem dX12_feed_48 : decode cX12_feed 48 = .ok (.goto 28, 3) := by decide +kernel
theorem dX12_feed_51 : decode cX12_feed 51 = .ok (.iload 6, 2) := by decide +kernel
theorem dX12_feed_53 : decode cX12_feed 53 = .ok (.bipush 12, 2) := by decide +kernel
theorem dX12_feed_55 : decode cX12_feed 55 = .ok (.if_icmp .ge 7, 3) := by decide +kernel
theorem dX12_feed_58 : decode cX12_feed 58 = .ok (.iload_n 3, 1) := by decide +kernel
theorem dX12_feed_59 : decode cX12_feed 59 = .ok (.goto 17, 3) := by decide +kernel
theorem dX12_feed_62 : decode cX12_feed 62 = .ok (.iload 6, 2) := by decide +kernel
theorem dX12_feed_64 : decode cX12_feed 64 = .ok (.bipush 16, 2) := by decide +kernel
theorem dX12_feed_66 : decode cX12_feed 66 = .ok (.if_icmp .ge 8, 3) := by decide +kernel
theorem dX12_feed_69 : decode cX12_feed 69 = .ok (.iload 4, 2) := by decide +kernel
theorem dX12_feed_71 : decode cX12_feed 71 = .ok (.goto 5, 3) := by decide +kernel
theorem dX12_feed_74 : decode cX12_feed 74 = .ok (.iload 5, 2) := by decide +kernel
theorem dX12_feed_76 : decode cX12_feed 76 = .ok (.istore 7, 2) := by decide +kernel
theorem dX12_feed_78 : decode cX12_feed 78 = .ok (.aload_n 0, 1) := by decide +kernel
theorem dX12_feed_79 : decode cX12_feed 79 = .ok (.getfield 13, 3) := by decide +kernel
theorem dX12_feed_82 : decode cX12_feed 82 = .ok (.aload_n 0, 1) := by decide +kernel
theorem dX12_feed_83 : decode cX12_feed 83 = .ok (.getfield 79, 3) := by decide +kernel
theorem dX12_feed_86 : decode cX12_feed 86 = .ok (.iload 6, 2) := by decide +kernel
theorem dX12_feed_88 : decode cX12_feed 88 = .ok (.iadd, 1) := by decide +kernel
theorem dX12_feed_89 : decode cX12_feed 89 = .ok (.iload 7, 2) := by decide +kernel
theorem dX12_feed_91 : decode cX12_feed 91 = .ok (.bipush 24, 2) := by decide +kernel
theorem dX12_feed_93 : decode cX12_feed 93 = .ok (.bipush 8, 2) := by decide +kernel
theorem dX12_feed_95 : decode cX12_feed 95 = .ok (.iload 6, 2) := by decide +kernel
theorem dX12_feed_97 : decode cX12_feed 97 = .ok (.iconst 4, 1) := by decide +kernel
theorem dX12_feed_98 : decode cX12_feed 98 = .ok (.irem, 1) := by decide +kernel
theorem dX12_feed_99 : decode cX12_feed 99 = .ok (.imul, 1) := by decide +kernel
theorem dX12_feed_100 : decode cX12_feed 100 = .ok (.isub, 1) := by decide +kernel
theorem dX12_feed_101 : decode cX12_feed 101 = .ok (.ishr, 1) := by decide +kernel
theorem dX12_feed_102 : decode cX12_feed 102 = .ok (.sipush 255, 3) := by decide +kernel
theorem dX12_feed_105 : decode cX12_feed 105 = .ok (.iand, 1) := by decide +kernel
theorem dX12_feed_106 : decode cX12_feed 106 = .ok (.iastore, 1) := by decide +kernel
theorem dX12_feed_107 : decode cX12_feed 107 = .ok (.iinc 6 1, 3) := by decide +kernel
theorem dX12_feed_110 : decode cX12_feed 110 = .ok (.goto (-87), 3) := by decide +kernel
theorem dX12_feed_113 : decode cX12_feed 113 = .ok (.aload_n 0, 1) := by decide +kernel
theorem dX12_feed_114 : decode cX12_feed 114 = .ok (.dup, 1) := by decide +kernel
theorem dX12_feed_115 : decode cX12_feed 115 = .ok (.getfield 79, 3) := by decide +kernel
theorem dX12_feed_118 : decode cX12_feed 118 = .ok (.bipush 20, 2) := by decide +kernel
theorem dX12_feed_120 : decode cX12_feed 120 = .ok (.iadd, 1) := by decide +kernel
theorem dX12_feed_121 : decode cX12_feed 121 = .ok (.putfield 79, 3) := by decide +kernel
theorem dX12_feed_124 : decode cX12_feed 124 = .ok (.aload_n 0, 1) := by decide +kernel
theorem dX12_feed_125 : decode cX12_feed 125 = .ok (.getfield 79, 3) := by decide +kernel
theorem dX12_feed_128 : decode cX12_feed 128 = .ok (.ireturn, 1) := by decide +kernel
theorem dX12_flaw_0 : decode cX12_flaw 0 = .ok (.aload_n 0, 1) := by decide +kernel
theorem dX12_flaw_1 : decode cX12_flaw 1 = .ok (.getfield 82, 3) := by decide +kernel
theorem dX12_flaw_4 : decode cX12_flaw 4 = .ok (.ifCond .le 4, 3) := by decide +kernel
theorem dX12_flaw_7 : decode cX12_flaw 7 = .ok (.return_, 1) := by decide +kernel
theorem dX12_flaw_8 : decode cX12_flaw 8 = .ok (.aload_n 0, 1) := by decide +kernel
theorem dX12_flaw_9 : decode cX12_flaw 9 = .ok (.iload_n 1, 1) := by decide +kernel
theorem dX12_flaw_10 : decode cX12_flaw 10 = .ok (.putfield 82, 3) := by decide +kernel
theorem dX12_flaw_13 : decode cX12_flaw 13 = .ok (.aload_n 0, 1) := by decide +kernel
theorem dX12_flaw_14 : decode cX12_flaw 14 = .ok (.aload_n 0, 1) := by decide +kernel
theorem dX12_flaw_15 : decode cX12_flaw 15 = .ok (.getfield 85, 3) := by decide +kernel
theorem dX12_flaw_18 : decode cX12_flaw 18 = .ok (.putfield 88, 3) := by decide +kernel
theorem dX12_flaw_21 : decode cX12_flaw 21 = .ok (.return_, 1) := by decide +kernel
theorem dX12_isLetterAt_0 : decode cX12_isLetterAt 0 = .ok (.iload_n 1, 1) := by decide +kernel
theorem dX12_isLetterAt_1 : decode cX12_isLetterAt 1 = .ok (.aload_n 0, 1) := by decide +kernel
theorem dX12_isLetterAt_2 : decode cX12_isLetterAt 2 = .ok (.getfield 91, 3) := by decide +kernel
theorem dX12_isLetterAt_5 : decode cX12_isLetterAt 5 = .ok (.if_icmp .ge 23, 3) := by decide +kernel
theorem dX12_isLetterAt_8 : decode cX12_isLetterAt 8 = .ok (.aload_n 0, 1) := by decide +kernel
theorem dX12_isLetterAt_9 : decode cX12_isLetterAt 9 = .ok (.getfield 13, 3) := by decide +kernel
theorem dX12_isLetterAt_12 : decode cX12_isLetterAt 12 = .ok (.iload_n 1, 1) := by decide +kernel
theorem dX12_isLetterAt_13 : decode cX12_isLetterAt 13 = .ok (.iaload, 1) := by decide +kernel
theorem dX12_isLetterAt_14 : decode cX12_isLetterAt 14 = .ok (.bipush 97, 2) := by decide +kernel
theorem dX12_isLetterAt_16 : decode cX12_isLetterAt 16 = .ok (.bipush 122, 2) := by decide +kernel
theorem dX12_isLetterAt_18 : decode cX12_isLetterAt 18 = .ok (.invokestatic 94, 3) := by decide +kernel
theorem dX12_isLetterAt_21 : decode cX12_isLetterAt 21 = .ok (.ifCond .eq 7, 3) := by decide +kernel
theorem dX12_isLetterAt_24 : decode cX12_isLetterAt 24 = .ok (.iconst 1, 1) := by decide +kernel
theorem dX12_isLetterAt_25 : decode cX12_isLetterAt 25 = .ok (.goto 4, 3) := by decide +kernel
theorem dX12_isLetterAt_28 : decode cX12_isLetterAt 28 = .ok (.iconst 0, 1) := by decide +kernel
theorem dX12_isLetterAt_29 : decode cX12_isLetterAt 29 = .ok (.ireturn, 1) := by decide +kernel
theorem dX12_isDigitAt_0 : decode cX12_isDigitAt 0 = .ok (.iload_n 1, 1) := by decide +kernel
theorem dX12_isDigitAt_1 : decode cX12_isDigitAt 1 = .ok (.aload_n 0, 1) := by decide +kernel
theorem dX12_isDigitAt_2 : decode cX12_isDigitAt 2 = .ok (.getfield 91, 3) := by decide +kernel
theorem dX12_isDigitAt_5 : decode cX12_isDigitAt 5 = .ok (.if_icmp .ge 23, 3) := by decide +kernel
theorem dX12_isDigitAt_8 : decode cX12_isDigitAt 8 = .ok (.aload_n 0, 1) := by decide +kernel
theorem dX12_isDigitAt_9 : decode cX12_isDigitAt 9 = .ok (.getfield 13, 3) := by decide +kernel
theorem dX12_isDigitAt_12 : decode cX12_isDigitAt 12 = .ok (.iload_n 1, 1) := by decide +kernel
theorem dX12_isDigitAt_13 : decode cX12_isDigitAt 13 = .ok (.iaload, 1) := by decide +kernel
theorem dX12_isDigitAt_14 : decode cX12_isDigitAt 14 = .ok (.bipush 48, 2) := by decide +kernel
theorem dX12_isDigitAt_16 : decode cX12_isDigitAt 16 = .ok (.bipush 57, 2) := by decide +kernel
theorem dX12_isDigitAt_18 : decode cX12_isDigitAt 18 = .ok (.invokestatic 94, 3) := by decide +kernel
theorem dX12_isDigitAt_21 : decode cX12_isDigitAt 21 = .ok (.ifCond .eq 7, 3) := by decide +kernel
theorem dX12_isDigitAt_24 : decode cX12_isDigitAt 24 = .ok (.iconst 1, 1) := by decide +kernel
theorem dX12_isDigitAt_25 : decode cX12_isDigitAt 25 = .ok (.goto 4, 3) := by decide +kernel
theorem dX12_isDigitAt_28 : decode cX12_isDigitAt 28 = .ok (.iconst 0, 1) := by decide +kernel
theorem dX12_isDigitAt_29 : decode cX12_isDigitAt 29 = .ok (.ireturn, 1) := by decide +kernel
theorem dX12_goOn_0 : decode cX12_goOn 0 = .ok (.aload_n 0, 1) := by decide +kernel
theorem dX12_goOn_1 : decode cX12_goOn 1 = .ok (.getfield 82, 3) := by decide +kernel
theorem dX12_goOn_4 : decode cX12_goOn 4 = .ok (.ifCond .le 4, 3) := by decide +kernel
theorem dX12_goOn_7 : decode cX12_goOn 7 = .ok (.return_, 1) := by decide +kernel
theorem dX12_goOn_8 : decode cX12_goOn 8 = .ok (.aload_n 0, 1) := by decide +kernel
theorem dX12_goOn_9 : decode cX12_goOn 9 = .ok (.getfield 98, 3) := by decide +kernel
theorem dX12_goOn_12 : decode cX12_goOn 12 = .ok (.aload_n 0, 1) := by decide +kernel
theorem dX12_goOn_13 : decode cX12_goOn 13 = .ok (.getfield 91, 3) := by decide +kernel
theorem dX12_goOn_16 : decode cX12_goOn 16 = .ok (.if_icmp .ge 30, 3) := by decide +kernel
theorem dX12_goOn_19 : decode cX12_goOn 19 = .ok (.aload_n 0, 1) := by decide +kernel
theorem dX12_goOn_20 : decode cX12_goOn 20 = .ok (.getfield 13, 3) := by decide +kernel
theorem dX12_goOn_23 : decode cX12_goOn 23 = .ok (.aload_n 0, 1) := by decide +kernel
theorem dX12_goOn_24 : decode cX12_goOn 24 = .ok (.getfield 98, 3) := by decide +kernel
theorem dX12_goOn_27 : decode cX12_goOn 27 = .ok (.iaload, 1) := by decide +kernel
theorem dX12_goOn_28 : decode cX12_goOn 28 = .ok (.bipush 32, 2) := by decide +kernel
theorem dX12_goOn_30 : decode cX12_goOn 30 = .ok (.if_icmp .ne 16, 3) := by decide +kernel
theorem dX12_goOn_33 : decode cX12_goOn 33 = .ok (.aload_n 0, 1) := by decide +kernel
theorem dX12_goOn_34 : decode cX12_goOn 34 = .ok (.dup, 1) := by decide +kernel
theorem dX12_goOn_35 : decode cX12_goOn 35 = .ok (.getfield 98, 3) := by decide +kernel
theorem dX12_goOn_38 : decode cX12_goOn 38 = .ok (.iconst 1, 1) := by decide +kernel
theorem dX12_goOn_39 : decode cX12_goOn 39 = .ok (.iadd, 1) := by decide +kernel
theorem dX12_goOn_40 : decode cX12_goOn 40 = .ok (.putfield 98, 3) := by decide +kernel
theorem dX12_goOn_43 : decode cX12_goOn 43 = .ok (.goto (-35), 3) := by decide +kernel
theorem dX12_goOn_46 : decode cX12_goOn 46 = .ok (.aload_n 0, 1) := by decide +kernel
theorem dX12_goOn_47 : decode cX12_goOn 47 = .ok (.aload_n 0, 1) := by decide +kernel
theorem dX12_goOn_48 : decode cX12_goOn 48 = .ok (.getfield 98, 3) := by decide +kernel
theorem dX12_goOn_51 : decode cX12_goOn 51 = .ok (.putfield 85, 3) := by decide +kernel
theorem dX12_goOn_54 : decode cX12_goOn 54 = .ok (.aload_n 0, 1) := by decide +kernel
theorem dX12_goOn_55 : decode cX12_goOn 55 = .ok (.getfield 98, 3) := by decide +kernel
theorem dX12_goOn_58 : decode cX12_goOn 58 = .ok (.aload_n 0, 1) := by decide +kernel
theorem dX12_goOn_59 : decode cX12_goOn 59 = .ok (.getfield 91, 3) := by decide +kernel
theorem dX12_goOn_62 : decode cX12_goOn 62 = .ok (.if_icmp .ne 11, 3) := by decide +kernel
theorem dX12_goOn_65 : decode cX12_goOn 65 = .ok (.aload_n 0, 1) := by decide +kernel
theorem dX12_goOn_66 : decode cX12_goOn 66 = .ok (.iconst 1, 1) := by decide +kernel
theorem dX12_goOn_67 : decode cX12_goOn 67 = .ok (.putfield 101, 3) := by decide +kernel
theorem dX12_goOn_70 : decode cX12_goOn 70 = .ok (.goto 264, 3) := by decide +kernel
theorem dX12_goOn_73 : decode cX12_goOn 73 = .ok (.aload_n 0, 1) := by decide +kernel
theorem dX12_goOn_74 : decode cX12_goOn 74 = .ok (.aload_n 0, 1) := by decide +kernel
theorem dX12_goOn_75 : decode cX12_goOn 75 = .ok (.getfield 98, 3) := by decide +kernel
theorem dX12_goOn_78 : decode cX12_goOn 78 = .ok (.invokevirtual 104, 3) := by decide +kernel
theorem dX12_goOn_81 : decode cX12_goOn 81 = .ok (.ifCond .eq 101, 3) := by decide +kernel
theorem dX12_goOn_84 : decode cX12_goOn 84 = .ok (.aload_n 0, 1) := by decide +kernel
theorem dX12_goOn_85 : decode cX12_goOn 85 = .ok (.lconst 0, 1) := by decide +kernel
theorem dX12_goOn_86 : decode cX12_goOn 86 = .ok (.putfield 108, 3) := by decide +kernel
theorem dX12_goOn_89 : decode cX12_goOn 89 = .ok (.aload_n 0, 1) := by decide +kernel
theorem dX12_goOn_90 : decode cX12_goOn 90 = .ok (.aload_n 0, 1) := by decide +kernel
theorem dX12_goOn_91 : decode cX12_goOn 91 = .ok (.getfield 98, 3) := by decide +kernel
theorem dX12_goOn_94 : decode cX12_goOn 94 = .ok (.invokevirtual 104, 3) := by decide +kernel
theorem dX12_goOn_97 : decode cX12_goOn 97 = .ok (.ifCond .eq 59, 3) := by decide +kernel
theorem dX12_goOn_100 : decode cX12_goOn 100 = .ok (.aload_n 0, 1) := by decide +kernel
theorem dX12_goOn_101 : decode cX12_goOn 101 = .ok (.getfield 98, 3) := by decide +kernel
theorem dX12_goOn_104 : decode cX12_goOn 104 = .ok (.aload_n 0, 1) := by decide +kernel
theorem dX12_goOn_105 : decode cX12_goOn 105 = .ok (.getfield 85, 3) := by decide +kernel
theorem dX12_goOn_108 : decode cX12_goOn 108 = .ok (.isub, 1) := by decide +kernel
theorem dX12_goOn_109 : decode cX12_goOn 109 = .ok (.bipush 7, 2) := by decide +kernel
theorem dX12_goOn_111 : decode cX12_goOn 111 = .ok (.if_icmp .ge 32, 3) := by decide +kernel
theorem dX12_goOn_114 : decode cX12_goOn 114 = .ok (.aload_n 0, 1) := by decide +kernel
theorem dX12_goOn_115 : decode cX12_goOn 115 = .ok (.aload_n 0, 1) := by decide +kernel
theorem dX12_goOn_116 : decode cX12_goOn 116 = .ok (.getfield 108, 3) := by decide +kernel
theorem dX12_goOn_119 : decode cX12_goOn 119 = .ok (.ldc2_w 112, 3) := by decide +kernel
theorem dX12_goOn_122 : decode cX12_goOn 122 = .ok (.lmul, 1) := by decide +kernel
theorem dX12_goOn_123 : decode cX12_goOn 123 = .ok (.aload_n 0, 1) := by decide +kernel
theorem dX12_goOn_124 : decode cX12_goOn 124 = .ok (.getfield 13, 3) := by decide +kernel
theorem dX12_goOn_127 : decode cX12_goOn 127 = .ok (.aload_n 0, 1) := by decide +kernel
theorem dX12_goOn_128 : decode cX12_goOn 128 = .ok (.getfield 98, 3) := by decide +kernel
theorem dX12_goOn_131 : decode cX12_goOn 131 = .ok (.iaload, 1) := by decide +kernel
theorem dX12_goOn_132 : decode cX12_goOn 132 = .ok (.i2l, 1) := by decide +kernel
theorem dX12_goOn_133 : decode cX12_goOn 133 = .ok (.ladd, 1) := by decide +kernel
theorem dX12_goOn_134 : decode cX12_goOn 134 = .ok (.ldc2_w 114, 3) := by decide +kernel
theorem dX12_goOn_137 : decode cX12_goOn 137 = .ok (.lsub, 1) := by decide +kernel
theorem dX12_goOn_138 : decode cX12_goOn 138 = .ok (.lconst 1, 1) := by decide +kernel
theorem dX12_goOn_139 : decode cX12_goOn 139 = .ok (.ladd, 1) := by decide +kernel
theorem dX12_goOn_140 : decode cX12_goOn 140 = .ok (.putfield 108, 3) := by decide +kernel
theorem dX12_goOn_143 : decode cX12_goOn 143 = .ok (.aload_n 0, 1) := by decide +kernel
theorem dX12_goOn_144 : decode cX12_goOn 144 = .ok (.dup, 1) := by decide +kernel
theorem dX12_goOn_145 : decode cX12_goOn 145 = .ok (.getfield 98, 3) := by decide +kernel
theorem dX12_goOn_148 : decode cX12_goOn 148 = .ok (.iconst 1, 1) := by decide +kernel
theorem dX12_goOn_149 : decode cX12_goOn 149 = .ok (.iadd, 1) := by decide +kernel
theorem dX12_goOn_150 : decode cX12_goOn 150 = .ok (.putfield 98, 3) := by decide +kernel
theorem dX12_goOn_153 : decode cX12_goOn 153 = .ok (.goto (-64), 3) := by decide +kernel
theorem dX12_goOn_156 : decode cX12_goOn 156 = .ok (.aload_n 0, 1) := by decide +kernel
theorem dX12_goOn_157 : decode cX12_goOn 157 = .ok (.aload_n 0, 1) := by decide +kernel
theorem dX12_goOn_158 : decode cX12_goOn 158 = .ok (.getfield 98, 3) := by decide +kernel
theorem dX12_goOn_161 : decode cX12_goOn 161 = .ok (.aload_n 0, 1) := by decide +kernel
theorem dX12_goOn_162 : decode cX12_goOn 162 = .ok (.getfield 85, 3) := by decide +kernel
theorem dX12_goOn_165 : decode cX12_goOn 165 = .ok (.isub, 1) := by decide +kernel
theorem dX12_goOn_166 : decode cX12_goOn 166 = .ok (.bipush 7, 2) := by decide +kernel
theorem dX12_goOn_168 : decode cX12_goOn 168 = .ok (.if_icmp .le 7, 3) := by decide +kernel
theorem dX12_goOn_171 : decode cX12_goOn 171 = .ok (.iconst 0, 1) := by decide +kernel
theorem dX12_goOn_172 : decode cX12_goOn 172 = .ok (.goto 4, 3) := by decide +kernel
theorem dX12_goOn_175 : decode cX12_goOn 175 = .ok (.iconst 2, 1) := by decide +kernel
theorem dX12_goOn_176 : decode cX12_goOn 176 = .ok (.putfield 101, 3) := by decide +kernel
theorem dX12_goOn_179 : decode cX12_goOn 179 = .ok (.goto 155, 3) := by decide +kernel
theorem dX12_goOn_182 : decode cX12_goOn 182 = .ok (.aload_n 0, 1) := by decide +kernel
theorem dX12_goOn_183 : decode cX12_goOn 183 = .ok (.aload_n 0, 1) := by decide +kernel
theorem dX12_goOn_184 : decode cX12_goOn 184 = .ok (.getfield 98, 3) := by decide +kernel
theorem dX12_goOn_187 : decode cX12_goOn 187 = .ok (.invokevirtual 116, 3) := by decide +kernel
theorem dX12_goOn_190 : decode cX12_goOn 190 = .ok (.ifCond .eq 94, 3) := by decide +kernel
theorem dX12_goOn_193 : decode cX12_goOn 193 = .ok (.aload_n 0, 1) := by decide +kernel
theorem dX12_goOn_194 : decode cX12_goOn 194 = .ok (.iconst 0, 1) := by decide +kernel
theorem dX12_goOn_195 : decode cX12_goOn 195 = .ok (.putfield 119, 3) := by decide +kernel
theorem dX12_goOn_198 : decode cX12_goOn 198 = .ok (.aload_n 0, 1) := by decide +kernel
theorem dX12_goOn_199 : decode cX12_goOn 199 = .ok (.aload_n 0, 1) := by decide +kernel
theorem dX12_goOn_200 : decode cX12_goOn 200 = .ok (.getfield 98, 3) := by decide +kernel
theorem dX12_goOn_203 : decode cX12_goOn 203 = .ok (.invokevirtual 116, 3) := by decide +kernel
theorem dX12_goOn_206 : decode cX12_goOn 206 = .ok (.ifCond .eq 53, 3) := by decide +kernel
theorem dX12_goOn_209 : decode cX12_goOn 209 = .ok (.aload_n 0, 1) := by decide +kernel
theorem dX12_goOn_210 : decode cX12_goOn 210 = .ok (.getfield 98, 3) := by decide +kernel
theorem dX12_goOn_213 : decode cX12_goOn 213 = .ok (.aload_n 0, 1) := by decide +kernel
theorem dX12_goOn_214 : decode cX12_goOn 214 = .ok (.getfield 85, 3) := by decide +kernel
theorem dX12_goOn_217 : decode cX12_goOn 217 = .ok (.isub, 1) := by decide +kernel
theorem dX12_goOn_218 : decode cX12_goOn 218 = .ok (.iconst 3, 1) := by decide +kernel
theorem dX12_goOn_219 : decode cX12_goOn 219 = .ok (.if_icmp .ge 27, 3) := by decide +kernel
theorem dX12_goOn_222 : decode cX12_goOn 222 = .ok (.aload_n 0, 1) := by decide +kernel
theorem dX12_goOn_223 : decode cX12_goOn 223 = .ok (.bipush 10, 2) := by decide +kernel
theorem dX12_goOn_225 : decode cX12_goOn 225 = .ok (.aload_n 0, 1) := by decide +kernel
theorem dX12_goOn_226 : decode cX12_goOn 226 = .ok (.getfield 119, 3) := by decide +kernel
theorem dX12_goOn_229 : decode cX12_goOn 229 = .ok (.imul, 1) := by decide +kernel
theorem dX12_goOn_230 : decode cX12_goOn 230 = .ok (.aload_n 0, 1) := by decide +kernel
theorem dX12_goOn_231 : decode cX12_goOn 231 = .ok (.getfield 13, 3) := by decide +kernel
theorem dX12_goOn_234 : decode cX12_goOn 234 = .ok (.aload_n 0, 1) := by decide +kernel
theorem dX12_goOn_235 : decode cX12_goOn 235 = .ok (.getfield 98, 3) := by decide +kernel
theorem dX12_goOn_238 : decode cX12_goOn 238 = .ok (.iaload, 1) := by decide +kernel
theorem dX12_goOn_239 : decode cX12_goOn 239 = .ok (.iadd, 1) := by decide +kernel
theorem dX12_goOn_240 : decode cX12_goOn 240 = .ok (.bipush 48, 2) := by decide +kernel
theorem dX12_goOn_242 : decode cX12_goOn 242 = .ok (.isub, 1) := by decide +kernel
theorem dX12_goOn_243 : decode cX12_goOn 243 = .ok (.putfield 119, 3) := by decide +kernel
theorem dX12_goOn_246 : decode cX12_goOn 246 = .ok (.aload_n 0, 1) := by decide +kernel
theorem dX12_goOn_247 : decode cX12_goOn 247 = .ok (.dup, 1) := by decide +kernel
theorem dX12_goOn_248 : decode cX12_goOn 248 = .ok (.getfield 98, 3) := by decide +kernel
theorem dX12_goOn_251 : decode cX12_goOn 251 = .ok (.iconst 1, 1) := by decide +kernel
theorem dX12_goOn_252 : decode cX12_goOn 252 = .ok (.iadd, 1) := by decide +kernel
theorem dX12_goOn_253 : decode cX12_goOn 253 = .ok (.putfield 98, 3) := by decide +kernel
theorem dX12_goOn_256 : decode cX12_goOn 256 = .ok (.goto (-58), 3) := by decide +kernel
theorem dX12_goOn_259 : decode cX12_goOn 259 = .ok (.aload_n 0, 1) := by decide +kernel
theorem dX12_goOn_260 : decode cX12_goOn 260 = .ok (.aload_n 0, 1) := by decide +kernel
theorem dX12_goOn_261 : decode cX12_goOn 261 = .ok (.getfield 98, 3) := by decide +kernel
theorem dX12_goOn_264 : decode cX12_goOn 264 = .ok (.aload_n 0, 1) := by decide +kernel
theorem dX12_goOn_265 : decode cX12_goOn 265 = .ok (.getfield 85, 3) := by decide +kernel
theorem dX12_goOn_268 : decode cX12_goOn 268 = .ok (.isub, 1) := by decide +kernel
theorem dX12_goOn_269 : decode cX12_goOn 269 = .ok (.iconst 3, 1) := by decide +kernel
theorem dX12_goOn_270 : decode cX12_goOn 270 = .ok (.if_icmp .le 7, 3) := by decide +kernel
theorem dX12_goOn_273 : decode cX12_goOn 273 = .ok (.iconst 0, 1) := by decide +kernel
theorem dX12_goOn_274 : decode cX12_goOn 274 = .ok (.goto 4, 3) := by decide +kernel
theorem dX12_goOn_277 : decode cX12_goOn 277 = .ok (.iconst 3, 1) := by decide +kernel
theorem dX12_goOn_278 : decode cX12_goOn 278 = .ok (.putfield 101, 3) := by decide +kernel
theorem dX12_goOn_281 : decode cX12_goOn 281 = .ok (.goto 53, 3) := by decide +kernel
theorem dX12_goOn_284 : decode cX12_goOn 284 = .ok (.aload_n 0, 1) := by decide +kernel
theorem dX12_goOn_285 : decode cX12_goOn 285 = .ok (.aload_n 0, 1) := by decide +kernel
theorem dX12_goOn_286 : decode cX12_goOn 286 = .ok (.getfield 13, 3) := by decide +kernel
theorem dX12_goOn_289 : decode cX12_goOn 289 = .ok (.aload_n 0, 1) := by decide +kernel
theorem dX12_goOn_290 : decode cX12_goOn 290 = .ok (.getfield 98, 3) := by decide +kernel
theorem dX12_goOn_293 : decode cX12_goOn 293 = .ok (.iaload, 1) := by decide +kernel
theorem dX12_goOn_294 : decode cX12_goOn 294 = .ok (.putfield 122, 3) := by decide +kernel
theorem dX12_goOn_297 : decode cX12_goOn 297 = .ok (.aload_n 0, 1) := by decide +kernel
theorem dX12_goOn_298 : decode cX12_goOn 298 = .ok (.aload_n 0, 1) := by decide +kernel
theorem dX12_goOn_299 : decode cX12_goOn 299 = .ok (.getfield 122, 3) := by decide +kernel
theorem dX12_goOn_302 : decode cX12_goOn 302 = .ok (.bipush 59, 2) := by decide +kernel
theorem dX12_goOn_304 : decode cX12_goOn 304 = .ok (.if_icmp .eq 12, 3) := by decide +kernel
theorem dX12_goOn_307 : decode cX12_goOn 307 = .ok (.aload_n 0, 1) := by decide +kernel
theorem dX12_goOn_308 : decode cX12_goOn 308 = .ok (.getfield 122, 3) := by decide +kernel
theorem dX12_goOn_311 : decode cX12_goOn 311 = .ok (.bipush 44, 2) := by decide +kernel
theorem dX12_goOn_313 : decode cX12_goOn 313 = .ok (.if_icmp .ne 7, 3) := by decide +kernel
theorem dX12_goOn_316 : decode cX12_goOn 316 = .ok (.iconst 4, 1) := by decide +kernel
theorem dX12_goOn_317 : decode cX12_goOn 317 = .ok (.goto 4, 3) := by decide +kernel
theorem dX12_goOn_320 : decode cX12_goOn 320 = .ok (.iconst 0, 1) := by decide +kernel
theorem dX12_goOn_321 : decode cX12_goOn 321 = .ok (.putfield 101, 3) := by decide +kernel
theorem dX12_goOn_324 : decode cX12_goOn 324 = .ok (.aload_n 0, 1) := by decide +kernel
theorem dX12_goOn_325 : decode cX12_goOn 325 = .ok (.dup, 1) := by decide +kernel
theorem dX12_goOn_326 : decode cX12_goOn 326 = .ok (.getfield 98, 3) := by decide +kernel
theorem dX12_goOn_329 : decode cX12_goOn 329 = .ok (.iconst 1, 1) := by decide +kernel
theorem dX12_goOn_330 : decode cX12_goOn 330 = .ok (.iadd, 1) := by decide +kernel
theorem dX12_goOn_331 : decode cX12_goOn 331 = .ok (.putfield 98, 3) := by decide +kernel
theorem dX12_goOn_334 : decode cX12_goOn 334 = .ok (.return_, 1) := by decide +kernel
theorem dX12_wordOf_0 : decode cX12_wordOf 0 = .ok (.lconst 0, 1) := by decide +kernel
theorem dX12_wordOf_1 : decode cX12_wordOf 1 = .ok (.lstore_n 1, 1) := by decide +kernel
theorem dX12_wordOf_2 : decode cX12_wordOf 2 = .ok (.iconst 0, 1) := by decide +kernel
theorem dX12_wordOf_3 : decode cX12_wordOf 3 = .ok (.istore_n 3, 1) := by decide +kernel
theorem dX12_wordOf_4 : decode cX12_wordOf 4 = .ok (.iload_n 3, 1) := by decide +kernel
theorem dX12_wordOf_5 : decode cX12_wordOf 5 = .ok (.aload_n 0, 1) := by decide +kernel
theorem dX12_wordOf_6 : decode cX12_wordOf 6 = .ok (.invokevirtual 125, 3) := by decide +kernel
theorem dX12_wordOf_9 : decode cX12_wordOf 9 = .ok (.if_icmp .ge 28, 3) := by decide +kernel
theorem dX12_wordOf_12 : decode cX12_wordOf 12 = .ok (.lload_n 1, 1) := by decide +kernel
theorem dX12_wordOf_13 : decode cX12_wordOf 13 = .ok (.ldc2_w 112, 3) := by decide +kernel
theorem dX12_wordOf_16 : decode cX12_wordOf 16 = .ok (.lmul, 1) := by decide +kernel
theorem dX12_wordOf_17 : decode cX12_wordOf 17 = .ok (.aload_n 0, 1) := by decide +kernel
theorem dX12_wordOf_18 : decode cX12_wordOf 18 = .ok (.iload_n 3, 1) := by decide +kernel
theorem dX12_wordOf_19 : decode cX12_wordOf 19 = .ok (.invokevirtual 131, 3) := by decide +kernel
theorem dX12_wordOf_22 : decode cX12_wordOf 22 = .ok (.i2l, 1) := by decide +kernel
theorem dX12_wordOf_23 : decode cX12_wordOf 23 = .ok (.ladd, 1) := by decide +kernel
theorem dX12_wordOf_24 : decode cX12_wordOf 24 = .ok (.ldc2_w 114, 3) := by decide +kernel
theorem dX12_wordOf_27 : decode cX12_wordOf 27 = .ok (.lsub, 1) := by decide +kernel
theorem dX12_wordOf_28 : decode cX12_wordOf 28 = .ok (.lconst 1, 1) := by decide +kernel
theorem dX12_wordOf_29 : decode cX12_wordOf 29 = .ok (.ladd, 1) := by decide +kernel
theorem dX12_wordOf_30 : decode cX12_wordOf 30 = .ok (.lstore_n 1, 1) := by decide +kernel
theorem dX12_wordOf_31 : decode cX12_wordOf 31 = .ok (.iinc 3 1, 3) := by decide +kernel
theorem dX12_wordOf_34 : decode cX12_wordOf 34 = .ok (.goto (-30), 3) := by decide +kernel
theorem dX12_wordOf_37 : decode cX12_wordOf 37 = .ok (.lload_n 1, 1) := by decide +kernel
theorem dX12_wordOf_38 : decode cX12_wordOf 38 = .ok (.lreturn, 1) := by decide +kernel
theorem dX12_isWord_0 : decode cX12_isWord 0 = .ok (.aload_n 0, 1) := by decide +kernel
theorem dX12_isWord_1 : decode cX12_isWord 1 = .ok (.getfield 82, 3) := by decide +kernel
theorem dX12_isWord_4 : decode cX12_isWord 4 = .ok (.ifCond .ne 27, 3) := by decide +kernel
theorem dX12_isWord_7 : decode cX12_isWord 7 = .ok (.aload_n 0, 1) := by decide +kernel
theorem dX12_isWord_8 : decode cX12_isWord 8 = .ok (.getfield 101, 3) := by decide +kernel
theorem dX12_isWord_11 : decode cX12_isWord 11 = .ok (.iconst 2, 1) := by decide +kernel
theorem dX12_isWord_12 : decode cX12_isWord 12 = .ok (.if_icmp .ne 19, 3) := by decide +kernel
theorem dX12_isWord_15 : decode cX12_isWord 15 = .ok (.aload_n 0, 1) := by decide +kernel
theorem dX12_isWord_16 : decode cX12_isWord 16 = .ok (.getfield 108, 3) := by decide +kernel
theorem dX12_isWord_19 : decode cX12_isWord 19 = .ok (.aload_n 1, 1) := by decide +kernel
theorem dX12_isWord_20 : decode cX12_isWord 20 = .ok (.invokestatic 135, 3) := by decide +kernel
theorem dX12_isWord_23 : decode cX12_isWord 23 = .ok (.lcmp, 1) := by decide +kernel
theorem dX12_isWord_24 : decode cX12_isWord 24 = .ok (.ifCond .ne 7, 3) := by decide +kernel
theorem dX12_isWord_27 : decode cX12_isWord 27 = .ok (.iconst 1, 1) := by decide +kernel
theorem dX12_isWord_28 : decode cX12_isWord 28 = .ok (.goto 4, 3) := by decide +kernel
theorem dX12_isWord_31 : decode cX12_isWord 31 = .ok (.iconst 0, 1) := by decide +kernel
theorem dX12_isWord_32 : decode cX12_isWord 32 = .ok (.ireturn, 1) := by decide +kernel
theorem dX12_isSign_0 : decode cX12_isSign 0 = .ok (.aload_n 0, 1) := by decide +kernel
theorem dX12_isSign_1 : decode cX12_isSign 1 = .ok (.getfield 82, 3) := by decide +kernel
theorem dX12_isSign_4 : decode cX12_isSign 4 = .ok (.ifCond .ne 23, 3) := by decide +kernel
theorem dX12_isSign_7 : decode cX12_isSign 7 = .ok (.aload_n 0, 1) := by decide +kernel
theorem dX12_isSign_8 : decode cX12_isSign 8 = .ok (.getfield 101, 3) := by decide +kernel
theorem dX12_isSign_11 : decode cX12_isSign 11 = .ok (.iconst 4, 1) := by decide +kernel
theorem dX12_isSign_12 : decode cX12_isSign 12 = .ok (.if_icmp .ne 15, 3) := by decide +kernel
theorem dX12_isSign_15 : decode cX12_isSign 15 = .ok (.aload_n 0, 1) := by decide +kernel
theorem dX12_isSign_16 : decode cX12_isSign 16 = .ok (.getfield 122, 3) := by decide +kernel
theorem dX12_isSign_19 : decode cX12_isSign 19 = .ok (.iload_n 1, 1) := by decide +kernel
theorem dX12_isSign_20 : decode cX12_isSign 20 = .ok (.if_icmp .ne 7, 3) := by decide +kernel
theorem dX12_isSign_23 : decode cX12_isSign 23 = .ok (.iconst 1, 1) := by decide +kernel
theorem dX12_isSign_24 : decode cX12_isSign 24 = .ok (.goto 4, 3) := by decide +kernel
theorem dX12_isSign_27 : decode cX12_isSign 27 = .ok (.iconst 0, 1) := by decide +kernel
theorem dX12_isSign_28 : decode cX12_isSign 28 = .ok (.ireturn, 1) := by decide +kernel
theorem dX12_needs_0 : decode cX12_needs 0 = .ok (.aload_n 0, 1) := by decide +kernel
theorem dX12_needs_1 : decode cX12_needs 1 = .ok (.aload_n 1, 1) := by decide +kernel
theorem dX12_needs_2 : decode cX12_needs 2 = .ok (.invokevirtual 139, 3) := by decide +kernel
theorem dX12_needs_5 : decode cX12_needs 5 = .ok (.ifCond .ne 8, 3) := by decide +kernel
theorem dX12_needs_8 : decode cX12_needs 8 = .ok (.aload_n 0, 1) := by decide +kernel
theorem dX12_needs_9 : decode cX12_needs 9 = .ok (.iconst 1, 1) := by decide +kernel
theorem dX12_needs_10 : decode cX12_needs 10 = .ok (.invokevirtual 143, 3) := by decide +kernel
theorem dX12_needs_13 : decode cX12_needs 13 = .ok (.aload_n 0, 1) := by decide +kernel
theorem dX12_needs_14 : decode cX12_needs 14 = .ok (.invokevirtual 147, 3) := by decide +kernel
theorem dX12_needs_17 : decode cX12_needs 17 = .ok (.return_, 1) := by decide +kernel
theorem dX12_isOwn_0 : decode cX12_isOwn 0 = .ok (.aload_n 0, 1) := by decide +kernel
theorem dX12_isOwn_1 : decode cX12_isOwn 1 = .ok (.ldc 150, 2) := by decide +kernel
theorem dX12_isOwn_3 : decode cX12_isOwn 3 = .ok (.invokevirtual 139, 3) := by decide +kernel
theorem dX12_isOwn_6 : decode cX12_isOwn 6 = .ok (.ifCond .ne 48, 3) := by decide +kernel
theorem dX12_isOwn_9 : decode cX12_isOwn 9 = .ok (.aload_n 0, 1) := by decide +kernel
theorem dX12_isOwn_10 : decode cX12_isOwn 10 = .ok (.ldc 152, 2) := by decide +kernel
theorem dX12_isOwn_12 : decode cX12_isOwn 12 = .ok (.invokevirtual 139, 3) := by decide +kernel
theorem dX12_isOwn_15 : decode cX12_isOwn 15 = .ok (.ifCond .ne 39, 3) := by decide +kernel
theorem dX12_isOwn_18 : decode cX12_isOwn 18 = .ok (.aload_n 0, 1) := by decide +kernel
theorem dX12_isOwn_19 : decode cX12_isOwn 19 = .ok (.ldc 154, 2) := by decide +kernel
theorem dX12_isOwn_21 : decode cX12_isOwn 21 = .ok (.invokevirtual 139, 3) := by decide +kernel
theorem dX12_isOwn_24 : decode cX12_isOwn 24 = .ok (.ifCond .ne 30, 3) := by decide +kernel
theorem dX12_isOwn_27 : decode cX12_isOwn 27 = .ok (.aload_n 0, 1) := by decide +kernel
theorem dX12_isOwn_28 : decode cX12_isOwn 28 = .ok (.ldc 155, 2) := by decide +kernel
theorem dX12_isOwn_30 : decode cX12_isOwn 30 = .ok (.invokevirtual 139, 3) := by decide +kernel
theorem dX12_isOwn_33 : decode cX12_isOwn 33 = .ok (.ifCond .ne 21, 3) := by decide +kernel
theorem dX12_isOwn_36 : decode cX12_isOwn 36 = .ok (.aload_n 0, 1) := by decide +kernel
theorem dX12_isOwn_37 : decode cX12_isOwn 37 = .ok (.ldc 157, 2) := by decide +kernel
theorem dX12_isOwn_39 : decode cX12_isOwn 39 = .ok (.invokevirtual 139, 3) := by decide +kernel
theorem dX12_isOwn_42 : decode cX12_isOwn 42 = .ok (.ifCond .ne 12, 3) := by decide +kernel
theorem dX12_isOwn_45 : decode cX12_isOwn 45 = .ok (.aload_n 0, 1) := by decide +kernel
theorem dX12_isOwn_46 : decode cX12_isOwn 46 = .ok (.ldc 159, 2) := by decide +kernel
theorem dX12_isOwn_48 : decode cX12_isOwn 48 = .ok (.invokevirtual 139, 3) := by decide +kernel
theorem dX12_isOwn_51 : decode cX12_isOwn 51 = .ok (.ifCond .eq 7, 3) := by decide +kernel
theorem dX12_isOwn_54 : decode cX12_isOwn 54 = .ok (.iconst 1, 1) := by decide +kernel
theorem dX12_isOwn_55 : decode cX12_isOwn 55 = .ok (.goto 4, 3) := by decide +kernel
theorem dX12_isOwn_58 : decode cX12_isOwn 58 = .ok (.iconst 0, 1) := by decide +kernel
theorem dX12_isOwn_59 : decode cX12_isOwn 59 = .ok (.istore_n 1, 1) := by decide +kernel
theorem dX12_isOwn_60 : decode cX12_isOwn 60 = .ok (.iload_n 1, 1) := by decide +kernel
theorem dX12_isOwn_61 : decode cX12_isOwn 61 = .ok (.ifCond .ne 57, 3) := by decide +kernel
theorem dX12_isOwn_64 : decode cX12_isOwn 64 = .ok (.aload_n 0, 1) := by decide +kernel
theorem dX12_isOwn_65 : decode cX12_isOwn 65 = .ok (.ldc 161, 2) := by decide +kernel
theorem dX12_isOwn_67 : decode cX12_isOwn 67 = .ok (.invokevirtual 139, 3) := by decide +kernel
theorem dX12_isOwn_70 : decode cX12_isOwn 70 = .ok (.ifCond .ne 48, 3) := by decide +kernel
theorem dX12_isOwn_73 : decode cX12_isOwn 73 = .ok (.aload_n 0, 1) := by decide +kernel
theorem dX12_isOwn_74 : decode cX12_isOwn 74 = .ok (.ldc 163, 2) := by decide +kernel
theorem dX12_isOwn_76 : decode cX12_isOwn 76 = .ok (.invokevirtual 139, 3) := by decide +kernel
theorem dX12_isOwn_79 : decode cX12_isOwn 79 = .ok (.ifCond .ne 39, 3) := by decide +kernel
theorem dX12_isOwn_82 : decode cX12_isOwn 82 = .ok (.aload_n 0, 1) := by decide +kernel
theorem dX12_isOwn_83 : decode cX12_isOwn 83 = .ok (.ldc 165, 2) := by decide +kernel
theorem dX12_isOwn_85 : decode cX12_isOwn 85 = .ok (.invokevirtual 139, 3) := by decide +kernel
theorem dX12_isOwn_88 : decode cX12_isOwn 88 = .ok (.ifCond .ne 30, 3) := by decide +kernel
theorem dX12_isOwn_91 : decode cX12_isOwn 91 = .ok (.aload_n 0, 1) := by decide +kernel
theorem dX12_isOwn_92 : decode cX12_isOwn 92 = .ok (.ldc 167, 2) := by decide +kernel
theorem dX12_isOwn_94 : decode cX12_isOwn 94 = .ok (.invokevirtual 139, 3) := by decide +kernel
theorem dX12_isOwn_97 : decode cX12_isOwn 97 = .ok (.ifCond .ne 21, 3) := by decide +kernel
theorem dX12_isOwn_100 : decode cX12_isOwn 100 = .ok (.aload_n 0, 1) := by decide +kernel
theorem dX12_isOwn_101 : decode cX12_isOwn 101 = .ok (.ldc 169, 2) := by decide +kernel
theorem dX12_isOwn_103 : decode cX12_isOwn 103 = .ok (.invokevirtual 139, 3) := by decide +kernel
theorem dX12_isOwn_106 : decode cX12_isOwn 106 = .ok (.ifCond .ne 12, 3) := by decide +kernel
theorem dX12_isOwn_109 : decode cX12_isOwn 109 = .ok (.aload_n 0, 1) := by decide +kernel
theorem dX12_isOwn_110 : decode cX12_isOwn 110 = .ok (.ldc 171, 2) := by decide +kernel
theorem dX12_isOwn_112 : decode cX12_isOwn 112 = .ok (.invokevirtual 139, 3) := by decide +kernel
theorem dX12_isOwn_115 : decode cX12_isOwn 115 = .ok (.ifCond .eq 7, 3) := by decide +kernel
theorem dX12_isOwn_118 : decode cX12_isOwn 118 = .ok (.iconst 1, 1) := by decide +kernel
theorem dX12_isOwn_119 : decode cX12_isOwn 119 = .ok (.goto 4, 3) := by decide +kernel
theorem dX12_isOwn_122 : decode cX12_isOwn 122 = .ok (.iconst 0, 1) := by decide +kernel
theorem dX12_isOwn_123 : decode cX12_isOwn 123 = .ok (.ireturn, 1) := by decide +kernel
theorem dX12_readWhole_0 : decode cX12_readWhole 0 = .ok (.aload_n 0, 1) := by decide +kernel
theorem dX12_readWhole_1 : decode cX12_readWhole 1 = .ok (.getfield 101, 3) := by decide +kernel
theorem dX12_readWhole_4 : decode cX12_readWhole 4 = .ok (.iconst 3, 1) := by decide +kernel
theorem dX12_readWhole_5 : decode cX12_readWhole 5 = .ok (.if_icmp .eq 11, 3) := by decide +kernel
theorem dX12_readWhole_8 : decode cX12_readWhole 8 = .ok (.aload_n 0, 1) := by decide +kernel
theorem dX12_readWhole_9 : decode cX12_readWhole 9 = .ok (.iconst 1, 1) := by decide +kernel
theorem dX12_readWhole_10 : decode cX12_readWhole 10 = .ok (.invokevirtual 143, 3) := by decide +kernel
theorem dX12_readWhole_13 : decode cX12_readWhole 13 = .ok (.goto 20, 3) := by decide +kernel
theorem dX12_readWhole_16 : decode cX12_readWhole 16 = .ok (.aload_n 0, 1) := by decide +kernel
theorem dX12_readWhole_17 : decode cX12_readWhole 17 = .ok (.getfield 119, 3) := by decide +kernel
theorem dX12_readWhole_20 : decode cX12_readWhole 20 = .ok (.iload_n 1, 1) := by decide +kernel
theorem dX12_readWhole_21 : decode cX12_readWhole 21 = .ok (.iload_n 2, 1) := by decide +kernel
theorem dX12_readWhole_22 : decode cX12_readWhole 22 = .ok (.invokestatic 94, 3) := by decide +kernel
theorem dX12_readWhole_25 : decode cX12_readWhole 25 = .ok (.ifCond .ne 8, 3) := by decide +kernel
theorem dX12_readWhole_28 : decode cX12_readWhole 28 = .ok (.aload_n 0, 1) := by decide +kernel
theorem dX12_readWhole_29 : decode cX12_readWhole 29 = .ok (.iconst 2, 1) := by decide +kernel
theorem dX12_readWhole_30 : decode cX12_readWhole 30 = .ok (.invokevirtual 143, 3) := by decide +kernel
theorem dX12_readWhole_33 : decode cX12_readWhole 33 = .ok (.aload_n 0, 1) := by decide +kernel
theorem dX12_readWhole_34 : decode cX12_readWhole 34 = .ok (.getfield 119, 3) := by decide +kernel
theorem dX12_readWhole_37 : decode cX12_readWhole 37 = .ok (.istore_n 3, 1) := by decide +kernel
theorem dX12_readWhole_38 : decode cX12_readWhole 38 = .ok (.aload_n 0, 1) := by decide +kernel
theorem dX12_readWhole_39 : decode cX12_readWhole 39 = .ok (.invokevirtual 147, 3) := by decide +kernel
theorem dX12_readWhole_42 : decode cX12_readWhole 42 = .ok (.iload_n 3, 1) := by decide +kernel
theorem dX12_readWhole_43 : decode cX12_readWhole 43 = .ok (.ireturn, 1) := by decide +kernel
theorem dX12_readTold_0 : decode cX12_readTold 0 = .ok (.aload_n 0, 1) := by decide +kernel
theorem dX12_readTold_1 : decode cX12_readTold 1 = .ok (.aload_n 1, 1) := by decide +kernel
theorem dX12_readTold_2 : decode cX12_readTold 2 = .ok (.invokevirtual 173, 3) := by decide +kernel
theorem dX12_readTold_5 : decode cX12_readTold 5 = .ok (.aload_n 0, 1) := by decide +kernel
theorem dX12_readTold_6 : decode cX12_readTold 6 = .ok (.iload_n 2, 1) := by decide +kernel
theorem dX12_readTold_7 : decode cX12_readTold 7 = .ok (.iload_n 3, 1) := by decide +kernel
theorem dX12_readTold_8 : decode cX12_readTold 8 = .ok (.invokevirtual 177, 3) := by decide +kernel
theorem dX12_readTold_11 : decode cX12_readTold 11 = .ok (.ireturn, 1) := by decide +kernel
theorem dX12_fault_0 : decode cX12_fault 0 = .ok (.aload_n 0, 1) := by decide +kernel
theorem dX12_fault_1 : decode cX12_fault 1 = .ok (.iconst 0, 1) := by decide +kernel
theorem dX12_fault_2 : decode cX12_fault 2 = .ok (.putfield 73, 3) := by decide +kernel
theorem dX12_fault_5 : decode cX12_fault 5 = .ok (.aload_n 0, 1) := by decide +kernel
theorem dX12_fault_6 : decode cX12_fault 6 = .ok (.getfield 82, 3) := by decide +kernel
theorem dX12_fault_9 : decode cX12_fault 9 = .ok (.ireturn, 1) := by decide +kernel
theorem dX12_where_0 : decode cX12_where 0 = .ok (.aload_n 0, 1) := by decide +kernel
theorem dX12_where_1 : decode cX12_where 1 = .ok (.iconst 0, 1) := by decide +kernel
theorem dX12_where_2 : decode cX12_where 2 = .ok (.putfield 73, 3) := by decide +kernel
theorem dX12_where_5 : decode cX12_where 5 = .ok (.aload_n 0, 1) := by decide +kernel
theorem dX12_where_6 : decode cX12_where 6 = .ok (.getfield 9, 3) := by decide +kernel
theorem dX12_where_9 : decode cX12_where 9 = .ok (.ireturn, 1) := by decide +kernel
theorem dX12_of_0 : decode cX12_of 0 = .ok (.aload_n 0, 1) := by decide +kernel
theorem dX12_of_1 : decode cX12_of 1 = .ok (.getfield 17, 3) := by decide +kernel
theorem dX12_of_4 : decode cX12_of 4 = .ok (.bipush 7, 2) := by decide +kernel
theorem dX12_of_6 : decode cX12_of 6 = .ok (.iload_n 1, 1) := by decide +kernel
theorem dX12_of_7 : decode cX12_of 7 = .ok (.imul, 1) := by decide +kernel
theorem dX12_of_8 : decode cX12_of 8 = .ok (.iload_n 2, 1) := by decide +kernel
theorem dX12_of_9 : decode cX12_of 9 = .ok (.iadd, 1) := by decide +kernel
theorem dX12_of_10 : decode cX12_of 10 = .ok (.iaload, 1) := by decide +kernel
theorem dX12_of_11 : decode cX12_of 11 = .ok (.ireturn, 1) := by decide +kernel
theorem dX12_readName_0 : decode cX12_readName 0 = .ok (.aload_n 0, 1) := by decide +kernel
theorem dX12_readName_1 : decode cX12_readName 1 = .ok (.getfield 82, 3) := by decide +kernel
theorem dX12_readName_4 : decode cX12_readName 4 = .ok (.ifCond .ne 23, 3) := by decide +kernel
theorem dX12_readName_7 : decode cX12_readName 7 = .ok (.aload_n 0, 1) := by decide +kernel
theorem dX12_readName_8 : decode cX12_readName 8 = .ok (.getfield 101, 3) := by decide +kernel
theorem dX12_readName_11 : decode cX12_readName 11 = .ok (.iconst 2, 1) := by decide +kernel
theorem dX12_readName_12 : decode cX12_readName 12 = .ok (.if_icmp .ne 10, 3) := by decide +kernel
theorem dX12_readName_15 : decode cX12_readName 15 = .ok (.aload_n 0, 1) := by decide +kernel
theorem dX12_readName_16 : decode cX12_readName 16 = .ok (.invokevirtual 181, 3) := by decide +kernel
theorem dX12_readName_19 : decode cX12_readName 19 = .ok (.ifCond .eq 8, 3) := by decide +kernel
theorem dX12_readName_22 : decode cX12_readName 22 = .ok (.aload_n 0, 1) := by decide +kernel
theorem dX12_readName_23 : decode cX12_readName 23 = .ok (.iconst 1, 1) := by decide +kernel
theorem dX12_readName_24 : decode cX12_readName 24 = .ok (.invokevirtual 143, 3) := by decide +kernel
theorem dX12_readName_27 : decode cX12_readName 27 = .ok (.iconst 0, 1) := by decide +kernel
theorem dX12_readName_28 : decode cX12_readName 28 = .ok (.istore_n 2, 1) := by decide +kernel
theorem dX12_readName_29 : decode cX12_readName 29 = .ok (.aload_n 0, 1) := by decide +kernel
theorem dX12_readName_30 : decode cX12_readName 30 = .ok (.getfield 82, 3) := by decide +kernel
theorem dX12_readName_33 : decode cX12_readName 33 = .ok (.ifCond .ne 36, 3) := by decide +kernel
theorem dX12_readName_36 : decode cX12_readName 36 = .ok (.iload_n 2, 1) := by decide +kernel
theorem dX12_readName_37 : decode cX12_readName 37 = .ok (.aload_n 0, 1) := by decide +kernel
theorem dX12_readName_38 : decode cX12_readName 38 = .ok (.getfield 185, 3) := by decide +kernel
theorem dX12_readName_41 : decode cX12_readName 41 = .ok (.if_icmp .ge 28, 3) := by decide +kernel
theorem dX12_readName_44 : decode cX12_readName 44 = .ok (.aload_n 0, 1) := by decide +kernel
theorem dX12_readName_45 : decode cX12_readName 45 = .ok (.getfield 36, 3) := by decide +kernel
theorem dX12_readName_48 : decode cX12_readName 48 = .ok (.iload_n 2, 1) := by decide +kernel
theorem dX12_readName_49 : decode cX12_readName 49 = .ok (.laload, 1) := by decide +kernel
theorem dX12_readName_50 : decode cX12_readName 50 = .ok (.aload_n 0, 1) := by decide +kernel
theorem dX12_readName_51 : decode cX12_readName 51 = .ok (.getfield 108, 3) := by decide +kernel
theorem dX12_readName_54 : decode cX12_readName 54 = .ok (.lcmp, 1) := by decide +kernel
theorem dX12_readName_55 : decode cX12_readName 55 = .ok (.ifCond .ne 8, 3) := by decide +kernel
theorem dX12_readName_58 : decode cX12_readName 58 = .ok (.aload_n 0, 1) := by decide +kernel
theorem dX12_readName_59 : decode cX12_readName 59 = .ok (.iconst 3, 1) := by decide +kernel
theorem dX12_readName_60 : decode cX12_readName 60 = .ok (.invokevirtual 143, 3) := by decide +kernel
theorem dX12_readName_63 : decode cX12_readName 63 = .ok (.iinc 2 1, 3) := by decide +kernel
theorem dX12_readName_66 : decode cX12_readName 66 = .ok (.goto (-37), 3) := by decide +kernel
theorem dX12_readName_69 : decode cX12_readName 69 = .ok (.iconst 0, 1) := by decide +kernel
theorem dX12_readName_70 : decode cX12_readName 70 = .ok (.istore_n 2, 1) := by decide +kernel
theorem dX12_readName_71 : decode cX12_readName 71 = .ok (.aload_n 0, 1) := by decide +kernel
theorem dX12_readName_72 : decode cX12_readName 72 = .ok (.getfield 82, 3) := by decide +kernel
theorem dX12_readName_75 : decode cX12_readName 75 = .ok (.ifCond .ne 38, 3) := by decide +kernel
theorem dX12_readName_78 : decode cX12_readName 78 = .ok (.iload_n 2, 1) := by decide +kernel
theorem dX12_readName_79 : decode cX12_readName 79 = .ok (.aload_n 0, 1) := by decide +kernel
theorem dX12_readName_80 : decode cX12_readName 80 = .ok (.getfield 188, 3) := by decide +kernel
theorem dX12_readName_83 : decode cX12_readName 83 = .ok (.if_icmp .ge 30, 3) := by decide +kernel
theorem dX12_readName_86 : decode cX12_readName 86 = .ok (.aload_n 0, 1) := by decide +kernel
theorem dX12_readName_87 : decode cX12_readName 87 = .ok (.getfield 36, 3) := by decide +kernel
theorem dX12_readName_90 : decode cX12_readName 90 = .ok (.iconst 4, 1) := by decide +kernel
theorem dX12_readName_91 : decode cX12_readName 91 = .ok (.iload_n 2, 1) := by decide +kernel
theorem dX12_readName_92 : decode cX12_readName 92 = .ok (.iadd, 1) := by decide +kernel
theorem dX12_readName_93 : decode cX12_readName 93 = .ok (.laload, 1) := by decide +kernel
theorem dX12_readName_94 : decode cX12_readName 94 = .ok (.aload_n 0, 1) := by decide +kernel
theorem dX12_readName_95 : decode cX12_readName 95 = .ok (.getfield 108, 3) := by decide +kernel
theorem dX12_readName_98 : decode cX12_readName 98 = .ok (.lcmp, 1) := by decide +kernel
theorem dX12_readName_99 : decode cX12_readName 99 = .ok (.ifCond .ne 8, 3) := by decide +kernel
theorem dX12_readName_102 : decode cX12_readName 102 = .ok (.aload_n 0, 1) := by decide +kernel
theorem dX12_readName_103 : decode cX12_readName 103 = .ok (.iconst 3, 1) := by decide +kernel
theorem dX12_readName_104 : decode cX12_readName 104 = .ok (.invokevirtual 143, 3) := by decide +kernel
theorem dX12_readName_107 : decode cX12_readName 107 = .ok (.iinc 2 1, 3) := by decide +kernel
theorem dX12_readName_110 : decode cX12_readName 110 = .ok (.goto (-39), 3) := by decide +kernel
theorem dX12_readName_113 : decode cX12_readName 113 = .ok (.aload_n 0, 1) := by decide +kernel
theorem dX12_readName_114 : decode cX12_readName 114 = .ok (.getfield 82, 3) := by decide +kernel
theorem dX12_readName_117 : decode cX12_readName 117 = .ok (.ifCond .ne 13, 3) := by decide +kernel
theorem dX12_readName_120 : decode cX12_readName 120 = .ok (.aload_n 0, 1) := by decide +kernel
theorem dX12_readName_121 : decode cX12_readName 121 = .ok (.getfield 36, 3) := by decide +kernel
theorem dX12_readName_124 : decode cX12_readName 124 = .ok (.iload_n 1, 1) := by decide +kernel
theorem dX12_readName_125 : decode cX12_readName 125 = .ok (.aload_n 0, 1) := by decide +kernel
theorem dX12_readName_126 : decode cX12_readName 126 = .ok (.getfield 108, 3) := by decide +kernel
theorem dX12_readName_129 : decode cX12_readName 129 = .ok (.lastore, 1) := by decide +kernel
theorem dX12_readName_130 : decode cX12_readName 130 = .ok (.aload_n 0, 1) := by decide +kernel
theorem dX12_readName_131 : decode cX12_readName 131 = .ok (.invokevirtual 147, 3) := by decide +kernel
theorem dX12_readName_134 : decode cX12_readName 134 = .ok (.return_, 1) := by decide +kernel
theorem dX12_readBuyer_0 : decode cX12_readBuyer 0 = .ok (.aload_n 0, 1) := by decide +kernel
theorem dX12_readBuyer_1 : decode cX12_readBuyer 1 = .ok (.getfield 188, 3) := by decide +kernel
theorem dX12_readBuyer_4 : decode cX12_readBuyer 4 = .ok (.iconst 4, 1) := by decide +kernel
theorem dX12_readBuyer_5 : decode cX12_readBuyer 5 = .ok (.if_icmp .eq 10, 3) := by decide +kernel
theorem dX12_readBuyer_8 : decode cX12_readBuyer 8 = .ok (.aload_n 0, 1) := by decide +kernel
theorem dX12_readBuyer_9 : decode cX12_readBuyer 9 = .ok (.getfield 185, 3) := by decide +kernel
theorem dX12_readBuyer_12 : decode cX12_readBuyer 12 = .ok (.ifCond .ne 8, 3) := by decide +kernel
theorem dX12_readBuyer_15 : decode cX12_readBuyer 15 = .ok (.aload_n 0, 1) := by decide +kernel
theorem dX12_readBuyer_16 : decode cX12_readBuyer 16 = .ok (.iconst 4, 1) := by decide +kernel
theorem dX12_readBuyer_17 : decode cX12_readBuyer 17 = .ok (.invokevirtual 143, 3) := by decide +kernel
theorem dX12_readBuyer_20 : decode cX12_readBuyer 20 = .ok (.aload_n 0, 1) := by decide +kernel
theorem dX12_readBuyer_21 : decode cX12_readBuyer 21 = .ok (.invokevirtual 147, 3) := by decide +kernel
theorem dX12_readBuyer_24 : decode cX12_readBuyer 24 = .ok (.aload_n 0, 1) := by decide +kernel
theorem dX12_readBuyer_25 : decode cX12_readBuyer 25 = .ok (.iconst 4, 1) := by decide +kernel
theorem dX12_readBuyer_26 : decode cX12_readBuyer 26 = .ok (.aload_n 0, 1) := by decide +kernel
theorem dX12_readBuyer_27 : decode cX12_readBuyer 27 = .ok (.getfield 188, 3) := by decide +kernel
theorem dX12_readBuyer_30 : decode cX12_readBuyer 30 = .ok (.iadd, 1) := by decide +kernel
theorem dX12_readBuyer_31 : decode cX12_readBuyer 31 = .ok (.invokevirtual 191, 3) := by decide +kernel
theorem dX12_readBuyer_34 : decode cX12_readBuyer 34 = .ok (.iconst 0, 1) := by decide +kernel
theorem dX12_readBuyer_35 : decode cX12_readBuyer 35 = .ok (.istore_n 1, 1) := by decide +kernel
theorem dX12_readBuyer_36 : decode cX12_readBuyer 36 = .ok (.iload_n 1, 1) := by decide +kernel
theorem dX12_readBuyer_37 : decode cX12_readBuyer 37 = .ok (.aload_n 0, 1) := by decide +kernel
theorem dX12_readBuyer_38 : decode cX12_readBuyer 38 = .ok (.getfield 185, 3) := by decide +kernel
theorem dX12_readBuyer_41 : decode cX12_readBuyer 41 = .ok (.if_icmp .ge 58, 3) := by decide +kernel
theorem dX12_readBuyer_44 : decode cX12_readBuyer 44 = .ok (.aload_n 0, 1) := by decide +kernel
theorem dX12_readBuyer_45 : decode cX12_readBuyer 45 = .ok (.getfield 82, 3) := by decide +kernel
theorem dX12_readBuyer_48 : decode cX12_readBuyer 48 = .ok (.ifCond .ne 51, 3) := by decide +kernel
theorem dX12_readBuyer_51 : decode cX12_readBuyer 51 = .ok (.iload_n 1, 1) := by decide +kernel
theorem dX12_readBuyer_52 : decode cX12_readBuyer 52 = .ok (.ifCond .le 21, 3) := by decide +kernel
theorem dX12_readBuyer_55 : decode cX12_readBuyer 55 = .ok (.aload_n 0, 1) := by decide +kernel
theorem dX12_readBuyer_56 : decode cX12_readBuyer 56 = .ok (.bipush 44, 2) := by decide +kernel
theorem dX12_readBuyer_58 : decode cX12_readBuyer 58 = .ok (.invokevirtual 194, 3) := by decide +kernel
theorem dX12_readBuyer_61 : decode cX12_readBuyer 61 = .ok (.ifCond .ne 8, 3) := by decide +kernel
theorem dX12_readBuyer_64 : decode cX12_readBuyer 64 = .ok (.aload_n 0, 1) := by decide +kernel
theorem dX12_readBuyer_65 : decode cX12_readBuyer 65 = .ok (.iconst 1, 1) := by decide +kernel
theorem dX12_readBuyer_66 : decode cX12_readBuyer 66 = .ok (.invokevirtual 143, 3) := by decide +kernel
theorem dX12_readBuyer_69 : decode cX12_readBuyer 69 = .ok (.aload_n 0, 1) := by decide +kernel
theorem dX12_readBuyer_70 : decode cX12_readBuyer 70 = .ok (.invokevirtual 147, 3) := by decide +kernel
theorem dX12_readBuyer_73 : decode cX12_readBuyer 73 = .ok (.aload_n 0, 1) := by decide +kernel
theorem dX12_readBuyer_74 : decode cX12_readBuyer 74 = .ok (.getfield 46, 3) := by decide +kernel
theorem dX12_readBuyer_77 : decode cX12_readBuyer 77 = .ok (.iconst 4, 1) := by decide +kernel
theorem dX12_readBuyer_78 : decode cX12_readBuyer 78 = .ok (.aload_n 0, 1) := by decide +kernel
theorem dX12_readBuyer_79 : decode cX12_readBuyer 79 = .ok (.getfield 188, 3) := by decide +kernel
theorem dX12_readBuyer_82 : decode cX12_readBuyer 82 = .ok (.imul, 1) := by decide +kernel
theorem dX12_readBuyer_83 : decode cX12_readBuyer 83 = .ok (.iload_n 1, 1) := by decide +kernel
theorem dX12_readBuyer_84 : decode cX12_readBuyer 84 = .ok (.iadd, 1) := by decide +kernel
theorem dX12_readBuyer_85 : decode cX12_readBuyer 85 = .ok (.aload_n 0, 1) := by decide +kernel
theorem dX12_readBuyer_86 : decode cX12_readBuyer 86 = .ok (.iconst 0, 1) := by decide +kernel
theorem dX12_readBuyer_87 : decode cX12_readBuyer 87 = .ok (.bipush 99, 2) := by decide +kernel
theorem dX12_readBuyer_89 : decode cX12_readBuyer 89 = .ok (.invokevirtual 177, 3) := by decide +kernel
theorem dX12_readBuyer_92 : decode cX12_readBuyer 92 = .ok (.iastore, 1) := by decide +kernel
theorem dX12_readBuyer_93 : decode cX12_readBuyer 93 = .ok (.iinc 1 1, 3) := by decide +kernel
theorem dX12_readBuyer_96 : decode cX12_readBuyer 96 = .ok (.goto (-60), 3) := by decide +kernel
theorem dX12_readBuyer_99 : decode cX12_readBuyer 99 = .ok (.aload_n 0, 1) := by decide +kernel
theorem dX12_readBuyer_100 : decode cX12_readBuyer 100 = .ok (.getfield 82, 3) := by decide +kernel
theorem dX12_readBuyer_103 : decode cX12_readBuyer 103 = .ok (.ifCond .ne 13, 3) := by decide +kernel
theorem dX12_readBuyer_106 : decode cX12_readBuyer 106 = .ok (.aload_n 0, 1) := by decide +kernel
theorem dX12_readBuyer_107 : decode cX12_readBuyer 107 = .ok (.dup, 1) := by decide +kernel
theorem dX12_readBuyer_108 : decode cX12_readBuyer 108 = .ok (.getfield 188, 3) := by decide +kernel
theorem dX12_readBuyer_111 : decode cX12_readBuyer 111 = .ok (.iconst 1, 1) := by decide +kernel
theorem dX12_readBuyer_112 : decode cX12_readBuyer 112 = .ok (.iadd, 1) := by decide +kernel
theorem dX12_readBuyer_113 : decode cX12_readBuyer 113 = .ok (.putfield 188, 3) := by decide +kernel
theorem dX12_readBuyer_116 : decode cX12_readBuyer 116 = .ok (.return_, 1) := by decide +kernel
theorem dX12_readService_0 : decode cX12_readService 0 = .ok (.aload_n 0, 1) := by decide +kernel
theorem dX12_readService_1 : decode cX12_readService 1 = .ok (.getfield 185, 3) := by decide +kernel
theorem dX12_readService_4 : decode cX12_readService 4 = .ok (.iconst 4, 1) := by decide +kernel
theorem dX12_readService_5 : decode cX12_readService 5 = .ok (.if_icmp .eq 10, 3) := by decide +kernel
theorem dX12_readService_8 : decode cX12_readService 8 = .ok (.aload_n 0, 1) := by decide +kernel
theorem dX12_readService_9 : decode cX12_readService 9 = .ok (.getfield 188, 3) := by decide +kernel
theorem dX12_readService_12 : decode cX12_readService 12 = .ok (.ifCond .le 8, 3) := by decide +kernel
theorem dX12_readService_15 : decode cX12_readService 15 = .ok (.aload_n 0, 1) := by decide +kernel
theorem dX12_readService_16 : decode cX12_readService 16 = .ok (.iconst 4, 1) := by decide +kernel
theorem dX12_readService_17 : decode cX12_readService 17 = .ok (.invokevirtual 143, 3) := by decide +kernel
theorem dX12_readService_20 : decode cX12_readService 20 = .ok (.aload_n 0, 1) := by decide +kernel
theorem dX12_readService_21 : decode cX12_readService 21 = .ok (.invokevirtual 147, 3) := by decide +kernel
theorem dX12_readService_24 : decode cX12_readService 24 = .ok (.aload_n 0, 1) := by decide +kernel
theorem dX12_readService_25 : decode cX12_readService 25 = .ok (.aload_n 0, 1) := by decide +kernel
theorem dX12_readService_26 : decode cX12_readService 26 = .ok (.getfield 185, 3) := by decide +kernel
theorem dX12_readService_29 : decode cX12_readService 29 = .ok (.invokevirtual 191, 3) := by decide +kernel
theorem dX12_readService_32 : decode cX12_readService 32 = .ok (.aload_n 0, 1) := by decide +kernel
theorem dX12_readService_33 : decode cX12_readService 33 = .ok (.getfield 82, 3) := by decide +kernel
theorem dX12_readService_36 : decode cX12_readService 36 = .ok (.ifCond .le 4, 3) := by decide +kernel
theorem dX12_readService_39 : decode cX12_readService 39 = .ok (.return_, 1) := by decide +kernel
theorem dX12_readService_40 : decode cX12_readService 40 = .ok (.bipush 7, 2) := by decide +kernel
theorem dX12_readService_42 : decode cX12_readService 42 = .ok (.aload_n 0, 1) := by decide +kernel
theorem dX12_readService_43 : decode cX12_readService 43 = .ok (.getfield 185, 3) := by decide +kernel
theorem dX12_readService_46 : decode cX12_readService 46 = .ok (.imul, 1) := by decide +kernel
theorem dX12_readService_47 : decode cX12_readService 47 = .ok (.istore_n 1, 1) := by decide +kernel
theorem dX12_readService_48 : decode cX12_readService 48 = .ok (.aload_n 0, 1) := by decide +kernel
theorem dX12_readService_49 : decode cX12_readService 49 = .ok (.getfield 20, 3) := by decide +kernel
theorem dX12_readService_52 : decode cX12_readService 52 = .ok (.iload_n 1, 1) := by decide +kernel
theorem dX12_readService_53 : decode cX12_readService 53 = .ok (.iconst 0, 1) := by decide +kernel
theorem dX12_readService_54 : decode cX12_readService 54 = .ok (.iadd, 1) := by decide +kernel
theorem dX12_readService_55 : decode cX12_readService 55 = .ok (.aload_n 0, 1) := by decide +kernel
theorem dX12_readService_56 : decode cX12_readService 56 = .ok (.ldc 152, 2) := by decide +kernel
theorem dX12_readService_58 : decode cX12_readService 58 = .ok (.iconst 0, 1) := by decide +kernel
theorem dX12_readService_59 : decode cX12_readService 59 = .ok (.bipush 20, 2) := by decide +kernel
theorem dX12_readService_61 : decode cX12_readService 61 = .ok (.invokevirtual 197, 3) := by decide +kernel
theorem dX12_readService_64 : decode cX12_readService 64 = .ok (.iastore, 1) := by decide +kernel
theorem dX12_readService_65 : decode cX12_readService 65 = .ok (.aload_n 0, 1) := by decide +kernel
theorem dX12_readService_66 : decode cX12_readService 66 = .ok (.getfield 20, 3) := by decide +kernel
theorem dX12_readService_69 : decode cX12_readService 69 = .ok (.iload_n 1, 1) := by decide +kernel
theorem dX12_readService_70 : decode cX12_readService 70 = .ok (.iconst 2, 1) := by decide +kernel
theorem dX12_readService_71 : decode cX12_readService 71 = .ok (.iadd, 1) := by decide +kernel
theorem dX12_readService_72 : decode cX12_readService 72 = .ok (.aload_n 0, 1) := by decide +kernel
theorem dX12_readService_73 : decode cX12_readService 73 = .ok (.ldc 154, 2) := by decide +kernel
theorem dX12_readService_75 : decode cX12_readService 75 = .ok (.iconst 0, 1) := by decide +kernel
theorem dX12_readService_76 : decode cX12_readService 76 = .ok (.sipush 200, 3) := by decide +kernel
theorem dX12_readService_79 : decode cX12_readService 79 = .ok (.invokevirtual 197, 3) := by decide +kernel
theorem dX12_readService_82 : decode cX12_readService 82 = .ok (.iastore, 1) := by decide +kernel
theorem dX12_readService_83 : decode cX12_readService 83 = .ok (.aload_n 0, 1) := by decide +kernel
theorem dX12_readService_84 : decode cX12_readService 84 = .ok (.getfield 20, 3) := by decide +kernel
theorem dX12_readService_87 : decode cX12_readService 87 = .ok (.iload_n 1, 1) := by decide +kernel
theorem dX12_readService_88 : decode cX12_readService 88 = .ok (.iconst 3, 1) := by decide +kernel
theorem dX12_readService_89 : decode cX12_readService 89 = .ok (.iadd, 1) := by decide +kernel
theorem dX12_readService_90 : decode cX12_readService 90 = .ok (.aload_n 0, 1) := by decide +kernel
theorem dX12_readService_91 : decode cX12_readService 91 = .ok (.ldc 155, 2) := by decide +kernel
theorem dX12_readService_93 : decode cX12_readService 93 = .ok (.iconst 0, 1) := by decide +kernel
theorem dX12_readService_94 : decode cX12_readService 94 = .ok (.bipush 9, 2) := by decide +kernel
theorem dX12_readService_96 : decode cX12_readService 96 = .ok (.invokevirtual 197, 3) := by decide +kernel
theorem dX12_readService_99 : decode cX12_readService 99 = .ok (.iastore, 1) := by decide +kernel
theorem dX12_readService_100 : decode cX12_readService 100 = .ok (.aload_n 0, 1) := by decide +kernel
theorem dX12_readService_101 : decode cX12_readService 101 = .ok (.getfield 20, 3) := by decide +kernel
theorem dX12_readService_104 : decode cX12_readService 104 = .ok (.iload_n 1, 1) := by decide +kernel
theorem dX12_readService_105 : decode cX12_readService 105 = .ok (.iconst 4, 1) := by decide +kernel
theorem dX12_readService_106 : decode cX12_readService 106 = .ok (.iadd, 1) := by decide +kernel
theorem dX12_readService_107 : decode cX12_readService 107 = .ok (.aload_n 0, 1) := by decide +kernel
theorem dX12_readService_108 : decode cX12_readService 108 = .ok (.ldc 157, 2) := by decide +kernel
theorem dX12_readService_110 : decode cX12_readService 110 = .ok (.iconst 0, 1) := by decide +kernel
theorem dX12_readService_111 : decode cX12_readService 111 = .ok (.bipush 20, 2) := by decide +kernel
theorem dX12_readService_113 : decode cX12_readService 113 = .ok (.invokevirtual 197, 3) := by decide +kernel
theorem dX12_readService_116 : decode cX12_readService 116 = .ok (.iastore, 1) := by decide +kernel
theorem dX12_readService_117 : decode cX12_readService 117 = .ok (.aload_n 0, 1) := by decide +kernel
theorem dX12_readService_118 : decode cX12_readService 118 = .ok (.ldc 159, 2) := by decide +kernel
theorem dX12_readService_120 : decode cX12_readService 120 = .ok (.invokevirtual 139, 3) := by decide +kernel
theorem dX12_readService_123 : decode cX12_readService 123 = .ok (.istore_n 2, 1) := by decide +kernel
theorem dX12_readService_124 : decode cX12_readService 124 = .ok (.aload_n 0, 1) := by decide +kernel
theorem dX12_readService_125 : decode cX12_readService 125 = .ok (.getfield 20, 3) := by decide +kernel
theorem dX12_readService_128 : decode cX12_readService 128 = .ok (.iload_n 1, 1) := by decide +kernel
theorem dX12_readService_129 : decode cX12_readService 129 = .ok (.iconst 5, 1) := by decide +kernel
theorem dX12_readService_130 : decode cX12_readService 130 = .ok (.iadd, 1) := by decide +kernel
theorem dX12_readService_131 : decode cX12_readService 131 = .ok (.iload_n 2, 1) := by decide +kernel
theorem dX12_readService_132 : decode cX12_readService 132 = .ok (.ifCond .eq 15, 3) := by decide +kernel
theorem dX12_readService_135 : decode cX12_readService 135 = .ok (.aload_n 0, 1) := by decide +kernel
theorem dX12_readService_136 : decode cX12_readService 136 = .ok (.ldc 159, 2) := by decide +kernel
theorem dX12_readService_138 : decode cX12_readService 138 = .ok (.iconst 0, 1) := by decide +kernel
theorem dX12_readService_139 : decode cX12_readService 139 = .ok (.bipush 99, 2) := by decide +kernel
theorem dX12_readService_141 : decode cX12_readService 141 = .ok (.invokevirtual 197, 3) := by decide +kernel
theorem dX12_readService_144 : decode cX12_readService 144 = .ok (.goto 4, 3) := by decide +kernel
theorem dX12_readService_147 : decode cX12_readService 147 = .ok (.iconst 0, 1) := by decide +kernel
theorem dX12_readService_148 : decode cX12_readService 148 = .ok (.iastore, 1) := by decide +kernel
theorem dX12_readService_149 : decode cX12_readService 149 = .ok (.aload_n 0, 1) := by decide +kernel
theorem dX12_readService_150 : decode cX12_readService 150 = .ok (.getfield 20, 3) := by decide +kernel
theorem dX12_readService_153 : decode cX12_readService 153 = .ok (.iload_n 1, 1) := by decide +kernel
theorem dX12_readService_154 : decode cX12_readService 154 = .ok (.bipush 6, 2) := by decide +kernel
theorem dX12_readService_156 : decode cX12_readService 156 = .ok (.iadd, 1) := by decide +kernel
theorem dX12_readService_157 : decode cX12_readService 157 = .ok (.iload_n 2, 1) := by decide +kernel
theorem dX12_readService_158 : decode cX12_readService 158 = .ok (.ifCond .eq 15, 3) := by decide +kernel
theorem dX12_readService_161 : decode cX12_readService 161 = .ok (.aload_n 0, 1) := by decide +kernel
theorem dX12_readService_162 : decode cX12_readService 162 = .ok (.ldc 161, 2) := by decide +kernel
theorem dX12_readService_164 : decode cX12_readService 164 = .ok (.iconst 0, 1) := by decide +kernel
theorem dX12_readService_165 : decode cX12_readService 165 = .ok (.bipush 99, 2) := by decide +kernel
theorem dX12_readService_167 : decode cX12_readService 167 = .ok (.invokevirtual 197, 3) := by decide +kernel
theorem dX12_readService_170 : decode cX12_readService 170 = .ok (.goto 4, 3) := by decide +kernel
theorem dX12_readService_173 : decode cX12_readService 173 = .ok (.iconst 0, 1) := by decide +kernel
theorem dX12_readService_174 : decode cX12_readService 174 = .ok (.iastore, 1) := by decide +kernel
theorem dX12_readService_175 : decode cX12_readService 175 = .ok (.aload_n 0, 1) := by decide +kernel
theorem dX12_readService_176 : decode cX12_readService 176 = .ok (.getfield 20, 3) := by decide +kernel
theorem dX12_readService_179 : decode cX12_readService 179 = .ok (.iload_n 1, 1) := by decide +kernel
theorem dX12_readService_180 : decode cX12_readService 180 = .ok (.iconst 1, 1) := by decide +kernel
theorem dX12_readService_181 : decode cX12_readService 181 = .ok (.iadd, 1) := by decide +kernel
theorem dX12_readService_182 : decode cX12_readService 182 = .ok (.aload_n 0, 1) := by decide +kernel
theorem dX12_readService_183 : decode cX12_readService 183 = .ok (.getfield 20, 3) := by decide +kernel
theorem dX12_readService_186 : decode cX12_readService 186 = .ok (.iload_n 1, 1) := by decide +kernel
theorem dX12_readService_187 : decode cX12_readService 187 = .ok (.iconst 0, 1) := by decide +kernel
theorem dX12_readService_188 : decode cX12_readService 188 = .ok (.iadd, 1) := by decide +kernel
theorem dX12_readService_189 : decode cX12_readService 189 = .ok (.iaload, 1) := by decide +kernel
theorem dX12_readService_190 : decode cX12_readService 190 = .ok (.iastore, 1) := by decide +kernel
theorem dX12_readService_191 : decode cX12_readService 191 = .ok (.aload_n 0, 1) := by decide +kernel
theorem dX12_readService_192 : decode cX12_readService 192 = .ok (.getfield 82, 3) := by decide +kernel
theorem dX12_readService_195 : decode cX12_readService 195 = .ok (.ifCond .ne 13, 3) := by decide +kernel
theorem dX12_readService_198 : decode cX12_readService 198 = .ok (.aload_n 0, 1) := by decide +kernel
theorem dX12_readService_199 : decode cX12_readService 199 = .ok (.dup, 1) := by decide +kernel
theorem dX12_readService_200 : decode cX12_readService 200 = .ok (.getfield 185, 3) := by decide +kernel
theorem dX12_readService_203 : decode cX12_readService 203 = .ok (.iconst 1, 1) := by decide +kernel
theorem dX12_readService_204 : decode cX12_readService 204 = .ok (.iadd, 1) := by decide +kernel
theorem dX12_readService_205 : decode cX12_readService 205 = .ok (.putfield 185, 3) := by decide +kernel
theorem dX12_readService_208 : decode cX12_readService 208 = .ok (.return_, 1) := by decide +kernel
theorem dX12_readRule_0 : decode cX12_readRule 0 = .ok (.aload_n 0, 1) := by decide +kernel
theorem dX12_readRule_1 : decode cX12_readRule 1 = .ok (.getfield 201, 3) := by decide +kernel
theorem dX12_readRule_4 : decode cX12_readRule 4 = .ok (.iload_n 1, 1) := by decide +kernel
theorem dX12_readRule_5 : decode cX12_readRule 5 = .ok (.ishr, 1) := by decide +kernel
theorem dX12_readRule_6 : decode cX12_readRule 6 = .ok (.iconst 1, 1) := by decide +kernel
theorem dX12_readRule_7 : decode cX12_readRule 7 = .ok (.iand, 1) := by decide +kernel
theorem dX12_readRule_8 : decode cX12_readRule 8 = .ok (.iconst 1, 1) := by decide +kernel
theorem dX12_readRule_9 : decode cX12_readRule 9 = .ok (.if_icmp .ne 8, 3) := by decide +kernel
theorem dX12_readRule_12 : decode cX12_readRule 12 = .ok (.aload_n 0, 1) := by decide +kernel
theorem dX12_readRule_13 : decode cX12_readRule 13 = .ok (.iconst 3, 1) := by decide +kernel
theorem dX12_readRule_14 : decode cX12_readRule 14 = .ok (.invokevirtual 143, 3) := by decide +kernel
theorem dX12_readRule_17 : decode cX12_readRule 17 = .ok (.aload_n 0, 1) := by decide +kernel
theorem dX12_readRule_18 : decode cX12_readRule 18 = .ok (.dup, 1) := by decide +kernel
theorem dX12_readRule_19 : decode cX12_readRule 19 = .ok (.getfield 201, 3) := by decide +kernel
theorem dX12_readRule_22 : decode cX12_readRule 22 = .ok (.iconst 1, 1) := by decide +kernel
theorem dX12_readRule_23 : decode cX12_readRule 23 = .ok (.iload_n 1, 1) := by decide +kernel
theorem dX12_readRule_24 : decode cX12_readRule 24 = .ok (.ishl, 1) := by decide +kernel
theorem dX12_readRule_25 : decode cX12_readRule 25 = .ok (.ior, 1) := by decide +kernel
theorem dX12_readRule_26 : decode cX12_readRule 26 = .ok (.putfield 201, 3) := by decide +kernel
theorem dX12_readRule_29 : decode cX12_readRule 29 = .ok (.aload_n 0, 1) := by decide +kernel
theorem dX12_readRule_30 : decode cX12_readRule 30 = .ok (.invokevirtual 147, 3) := by decide +kernel
theorem dX12_readRule_33 : decode cX12_readRule 33 = .ok (.aload_n 0, 1) := by decide +kernel
theorem dX12_readRule_34 : decode cX12_readRule 34 = .ok (.getfield 20, 3) := by decide +kernel
theorem dX12_readRule_37 : decode cX12_readRule 37 = .ok (.bipush 28, 2) := by decide +kernel
theorem dX12_readRule_39 : decode cX12_readRule 39 = .ok (.iload_n 1, 1) := by decide +kernel
theorem dX12_readRule_40 : decode cX12_readRule 40 = .ok (.iadd, 1) := by decide +kernel
theorem dX12_readRule_41 : decode cX12_readRule 41 = .ok (.aload_n 0, 1) := by decide +kernel
theorem dX12_readRule_42 : decode cX12_readRule 42 = .ok (.iconst 0, 1) := by decide +kernel
theorem dX12_readRule_43 : decode cX12_readRule 43 = .ok (.iload_n 1, 1) := by decide +kernel
theorem dX12_readRule_44 : decode cX12_readRule 44 = .ok (.iconst 2, 1) := by decide +kernel
theorem dX12_readRule_45 : decode cX12_readRule 45 = .ok (.if_icmp .ge 8, 3) := by decide +kernel
theorem dX12_readRule_48 : decode cX12_readRule 48 = .ok (.bipush 50, 2) := by decide +kernel
theorem dX12_readRule_50 : decode cX12_readRule 50 = .ok (.goto 15, 3) := by decide +kernel
theorem dX12_readRule_53 : decode cX12_readRule 53 = .ok (.iload_n 1, 1) := by decide +kernel
theorem dX12_readRule_54 : decode cX12_readRule 54 = .ok (.iconst 2, 1) := by decide +kernel
theorem dX12_readRule_55 : decode cX12_readRule 55 = .ok (.if_icmp .ne 8, 3) := by decide +kernel
theorem dX12_readRule_58 : decode cX12_readRule 58 = .ok (.bipush 100, 2) := by decide +kernel
theorem dX12_readRule_60 : decode cX12_readRule 60 = .ok (.goto 5, 3) := by decide +kernel
theorem dX12_readRule_63 : decode cX12_readRule 63 = .ok (.bipush 99, 2) := by decide +kernel
theorem dX12_readRule_65 : decode cX12_readRule 65 = .ok (.invokevirtual 177, 3) := by decide +kernel
theorem dX12_readRule_68 : decode cX12_readRule 68 = .ok (.iastore, 1) := by decide +kernel
theorem dX12_readRule_69 : decode cX12_readRule 69 = .ok (.return_, 1) := by decide +kernel
theorem dX12_readLine_0 : decode cX12_readLine 0 = .ok (.aload_n 0, 1) := by decide +kernel
theorem dX12_readLine_1 : decode cX12_readLine 1 = .ok (.ldc 150, 2) := by decide +kernel
theorem dX12_readLine_3 : decode cX12_readLine 3 = .ok (.invokevirtual 139, 3) := by decide +kernel
theorem dX12_readLine_6 : decode cX12_readLine 6 = .ok (.ifCond .eq 10, 3) := by decide +kernel
theorem dX12_readLine_9 : decode cX12_readLine 9 = .ok (.aload_n 0, 1) := by decide +kernel
theorem dX12_readLine_10 : decode cX12_readLine 10 = .ok (.invokevirtual 204, 3) := by decide +kernel
theorem dX12_readLine_13 : decode cX12_readLine 13 = .ok (.goto 92, 3) := by decide +kernel
theorem dX12_readLine_16 : decode cX12_readLine 16 = .ok (.aload_n 0, 1) := by decide +kernel
theorem dX12_readLine_17 : decode cX12_readLine 17 = .ok (.ldc 163, 2) := by decide +kernel
theorem dX12_readLine_19 : decode cX12_readLine 19 = .ok (.invokevirtual 139, 3) := by decide +kernel
theorem dX12_readLine_22 : decode cX12_readLine 22 = .ok (.ifCond .eq 10, 3) := by decide +kernel
theorem dX12_readLine_25 : decode cX12_readLine 25 = .ok (.aload_n 0, 1) := by decide +kernel
theorem dX12_readLine_26 : decode cX12_readLine 26 = .ok (.invokevirtual 207, 3) := by decide +kernel
theorem dX12_readLine_29 : decode cX12_readLine 29 = .ok (.goto 76, 3) := by decide +kernel
theorem dX12_readLine_32 : decode cX12_readLine 32 = .ok (.aload_n 0, 1) := by decide +kernel
theorem dX12_readLine_33 : decode cX12_readLine 33 = .ok (.ldc 165, 2) := by decide +kernel
theorem dX12_readLine_35 : decode cX12_readLine 35 = .ok (.invokevirtual 139, 3) := by decide +kernel
theorem dX12_readLine_38 : decode cX12_readLine 38 = .ok (.ifCond .eq 11, 3) := by decide +kernel
theorem dX12_readLine_41 : decode cX12_readLine 41 = .ok (.aload_n 0, 1) := by decide +kernel
theorem dX12_readLine_42 : decode cX12_readLine 42 = .ok (.iconst 0, 1) := by decide +kernel
theorem dX12_readLine_43 : decode cX12_readLine 43 = .ok (.invokevirtual 210, 3) := by decide +kernel
theorem dX12_readLine_46 : decode cX12_readLine 46 = .ok (.goto 59, 3) := by decide +kernel
theorem dX12_readLine_49 : decode cX12_readLine 49 = .ok (.aload_n 0, 1) := by decide +kernel
theorem dX12_readLine_50 : decode cX12_readLine 50 = .ok (.ldc 167, 2) := by decide +kernel
theorem dX12_readLine_52 : decode cX12_readLine 52 = .ok (.invokevirtual 139, 3) := by decide +kernel
theorem dX12_readLine_55 : decode cX12_readLine 55 = .ok (.ifCond .eq 11, 3) := by decide +kernel
theorem dX12_readLine_58 : decode cX12_readLine 58 = .ok (.aload_n 0, 1) := by decide +kernel
theorem dX12_readLine_59 : decode cX12_readLine 59 = .ok (.iconst 1, 1) := by decide +kernel
theorem dX12_readLine_60 : decode cX12_readLine 60 = .ok (.invokevirtual 210, 3) := by decide +kernel
theorem dX12_readLine_63 : decode cX12_readLine 63 = .ok (.goto 42, 3) := by decide +kernel
theorem dX12_readLine_66 : decode cX12_readLine 66 = .ok (.aload_n 0, 1) := by decide +kernel
theorem dX12_readLine_67 : decode cX12_readLine 67 = .ok (.ldc 169, 2) := by decide +kernel
theorem dX12_readLine_69 : decode cX12_readLine 69 = .ok (.invokevirtual 139, 3) := by decide +kernel
theorem dX12_readLine_72 : decode cX12_readLine 72 = .ok (.ifCond .eq 11, 3) := by decide +kernel
theorem dX12_readLine_75 : decode cX12_readLine 75 = .ok (.aload_n 0, 1) := by decide +kernel
theorem dX12_readLine_76 : decode cX12_readLine 76 = .ok (.iconst 2, 1) := by decide +kernel
theorem dX12_readLine_77 : decode cX12_readLine 77 = .ok (.invokevirtual 210, 3) := by decide +kernel
theorem dX12_readLine_80 : decode cX12_readLine 80 = .ok (.goto 25, 3) := by decide +kernel
theorem dX12_readLine_83 : decode cX12_readLine 83 = .ok (.aload_n 0, 1) := by decide +kernel
theorem dX12_readLine_84 : decode cX12_readLine 84 = .ok (.ldc 171, 2) := by decide +kernel
theorem dX12_readLine_86 : decode cX12_readLine 86 = .ok (.invokevirtual 139, 3) := by decide +kernel
theorem dX12_readLine_89 : decode cX12_readLine 89 = .ok (.ifCond .eq 11, 3) := by decide +kernel
theorem dX12_readLine_92 : decode cX12_readLine 92 = .ok (.aload_n 0, 1) := by decide +kernel
theorem dX12_readLine_93 : decode cX12_readLine 93 = .ok (.iconst 3, 1) := by decide +kernel
theorem dX12_readLine_94 : decode cX12_readLine 94 = .ok (.invokevirtual 210, 3) := by decide +kernel
theorem dX12_readLine_97 : decode cX12_readLine 97 = .ok (.goto 8, 3) := by decide +kernel
theorem dX12_readLine_100 : decode cX12_readLine 100 = .ok (.aload_n 0, 1) := by decide +kernel
theorem dX12_readLine_101 : decode cX12_readLine 101 = .ok (.iconst 1, 1) := by decide +kernel
theorem dX12_readLine_102 : decode cX12_readLine 102 = .ok (.invokevirtual 143, 3) := by decide +kernel
theorem dX12_readLine_105 : decode cX12_readLine 105 = .ok (.return_, 1) := by decide +kernel
theorem dX12_text_0 : decode cX12_text 0 = .ok (.aload_n 0, 1) := by decide +kernel
theorem dX12_text_1 : decode cX12_text 1 = .ok (.iconst 0, 1) := by decide +kernel
theorem dX12_text_2 : decode cX12_text 2 = .ok (.putfield 73, 3) := by decide +kernel
theorem dX12_text_5 : decode cX12_text 5 = .ok (.iload_n 1, 1) := by decide +kernel
theorem dX12_text_6 : decode cX12_text 6 = .ok (.iconst 0, 1) := by decide +kernel
theorem dX12_text_7 : decode cX12_text 7 = .ok (.aload_n 0, 1) := by decide +kernel
theorem dX12_text_8 : decode cX12_text 8 = .ok (.getfield 79, 3) := by decide +kernel
theorem dX12_text_11 : decode cX12_text 11 = .ok (.invokestatic 94, 3) := by decide +kernel
theorem dX12_text_14 : decode cX12_text 14 = .ok (.ifCond .ne 9, 3) := by decide +kernel
theorem dX12_text_17 : decode cX12_text 17 = .ok (.aload_n 0, 1) := by decide +kernel
theorem dX12_text_18 : decode cX12_text 18 = .ok (.iconst 2, 1) := by decide +kernel
theorem dX12_text_19 : decode cX12_text 19 = .ok (.invokevirtual 213, 3) := by decide +kernel
theorem dX12_text_22 : decode cX12_text 22 = .ok (.ireturn, 1) := by decide +kernel
theorem dX12_text_23 : decode cX12_text 23 = .ok (.aload_n 0, 1) := by decide +kernel
theorem dX12_text_24 : decode cX12_text 24 = .ok (.iload_n 1, 1) := by decide +kernel
theorem dX12_text_25 : decode cX12_text 25 = .ok (.putfield 91, 3) := by decide +kernel
theorem dX12_text_28 : decode cX12_text 28 = .ok (.aload_n 0, 1) := by decide +kernel
theorem dX12_text_29 : decode cX12_text 29 = .ok (.iconst 0, 1) := by decide +kernel
theorem dX12_text_30 : decode cX12_text 30 = .ok (.putfield 79, 3) := by decide +kernel
theorem dX12_text_33 : decode cX12_text 33 = .ok (.aload_n 0, 1) := by decide +kernel
theorem dX12_text_34 : decode cX12_text 34 = .ok (.iconst 0, 1) := by decide +kernel
theorem dX12_text_35 : decode cX12_text 35 = .ok (.putfield 98, 3) := by decide +kernel
theorem dX12_text_38 : decode cX12_text 38 = .ok (.aload_n 0, 1) := by decide +kernel
theorem dX12_text_39 : decode cX12_text 39 = .ok (.iconst 0, 1) := by decide +kernel
theorem dX12_text_40 : decode cX12_text 40 = .ok (.putfield 82, 3) := by decide +kernel
theorem dX12_text_43 : decode cX12_text 43 = .ok (.aload_n 0, 1) := by decide +kernel
theorem dX12_text_44 : decode cX12_text 44 = .ok (.iconst 0, 1) := by decide +kernel
theorem dX12_text_45 : decode cX12_text 45 = .ok (.putfield 185, 3) := by decide +kernel
theorem dX12_text_48 : decode cX12_text 48 = .ok (.aload_n 0, 1) := by decide +kernel
theorem dX12_text_49 : decode cX12_text 49 = .ok (.iconst 0, 1) := by decide +kernel
theorem dX12_text_50 : decode cX12_text 50 = .ok (.putfield 188, 3) := by decide +kernel
theorem dX12_text_53 : decode cX12_text 53 = .ok (.aload_n 0, 1) := by decide +kernel
theorem dX12_text_54 : decode cX12_text 54 = .ok (.iconst 0, 1) := by decide +kernel
theorem dX12_text_55 : decode cX12_text 55 = .ok (.putfield 201, 3) := by decide +kernel
theorem dX12_text_58 : decode cX12_text 58 = .ok (.iconst 0, 1) := by decide +kernel
theorem dX12_text_59 : decode cX12_text 59 = .ok (.istore_n 2, 1) := by decide +kernel
theorem dX12_text_60 : decode cX12_text 60 = .ok (.iload_n 2, 1) := by decide +kernel
theorem dX12_text_61 : decode cX12_text 61 = .ok (.sipush 534, 3) := by decide +kernel
theorem dX12_text_64 : decode cX12_text 64 = .ok (.if_icmp .ge 16, 3) := by decide +kernel
theorem dX12_text_67 : decode cX12_text 67 = .ok (.aload_n 0, 1) := by decide +kernel
theorem dX12_text_68 : decode cX12_text 68 = .ok (.getfield 20, 3) := by decide +kernel
theorem dX12_text_71 : decode cX12_text 71 = .ok (.iload_n 2, 1) := by decide +kernel
theorem dX12_text_72 : decode cX12_text 72 = .ok (.iconst 0, 1) := by decide +kernel
theorem dX12_text_73 : decode cX12_text 73 = .ok (.iastore, 1) := by decide +kernel
theorem dX12_text_74 : decode cX12_text 74 = .ok (.iinc 2 1, 3) := by decide +kernel
theorem dX12_text_77 : decode cX12_text 77 = .ok (.goto (-17), 3) := by decide +kernel
theorem dX12_text_80 : decode cX12_text 80 = .ok (.aload_n 0, 1) := by decide +kernel
theorem dX12_text_81 : decode cX12_text 81 = .ok (.getfield 20, 3) := by decide +kernel
theorem dX12_text_84 : decode cX12_text 84 = .ok (.bipush 30, 2) := by decide +kernel
theorem dX12_text_86 : decode cX12_text 86 = .ok (.bipush 10, 2) := by decide +kernel
theorem dX12_text_88 : decode cX12_text 88 = .ok (.iastore, 1) := by decide +kernel
theorem dX12_text_89 : decode cX12_text 89 = .ok (.aload_n 0, 1) := by decide +kernel
theorem dX12_text_90 : decode cX12_text 90 = .ok (.invokevirtual 147, 3) := by decide +kernel
theorem dX12_text_93 : decode cX12_text 93 = .ok (.aload_n 0, 1) := by decide +kernel
theorem dX12_text_94 : decode cX12_text 94 = .ok (.invokevirtual 217, 3) := by decide +kernel
theorem dX12_text_97 : decode cX12_text 97 = .ok (.aload_n 0, 1) := by decide +kernel
theorem dX12_text_98 : decode cX12_text 98 = .ok (.bipush 59, 2) := by decide +kernel
theorem dX12_text_100 : decode cX12_text 100 = .ok (.invokevirtual 194, 3) := by decide +kernel
theorem dX12_text_103 : decode cX12_text 103 = .ok (.ifCond .eq 14, 3) := by decide +kernel
theorem dX12_text_106 : decode cX12_text 106 = .ok (.aload_n 0, 1) := by decide +kernel
theorem dX12_text_107 : decode cX12_text 107 = .ok (.invokevirtual 147, 3) := by decide +kernel
theorem dX12_text_110 : decode cX12_text 110 = .ok (.aload_n 0, 1) := by decide +kernel
theorem dX12_text_111 : decode cX12_text 111 = .ok (.invokevirtual 217, 3) := by decide +kernel
theorem dX12_text_114 : decode cX12_text 114 = .ok (.goto (-17), 3) := by decide +kernel
theorem dX12_text_117 : decode cX12_text 117 = .ok (.aload_n 0, 1) := by decide +kernel
theorem dX12_text_118 : decode cX12_text 118 = .ok (.getfield 82, 3) := by decide +kernel
theorem dX12_text_121 : decode cX12_text 121 = .ok (.ifCond .ne 16, 3) := by decide +kernel
theorem dX12_text_124 : decode cX12_text 124 = .ok (.aload_n 0, 1) := by decide +kernel
theorem dX12_text_125 : decode cX12_text 125 = .ok (.getfield 101, 3) := by decide +kernel
theorem dX12_text_128 : decode cX12_text 128 = .ok (.iconst 1, 1) := by decide +kernel
theorem dX12_text_129 : decode cX12_text 129 = .ok (.if_icmp .eq 8, 3) := by decide +kernel
theorem dX12_text_132 : decode cX12_text 132 = .ok (.aload_n 0, 1) := by decide +kernel
theorem dX12_text_133 : decode cX12_text 133 = .ok (.iconst 1, 1) := by decide +kernel
theorem dX12_text_134 : decode cX12_text 134 = .ok (.invokevirtual 143, 3) := by decide +kernel
theorem dX12_text_137 : decode cX12_text 137 = .ok (.aload_n 0, 1) := by decide +kernel
theorem dX12_text_138 : decode cX12_text 138 = .ok (.getfield 82, 3) := by decide +kernel
theorem dX12_text_141 : decode cX12_text 141 = .ok (.ifCond .ne 15, 3) := by decide +kernel
theorem dX12_text_144 : decode cX12_text 144 = .ok (.aload_n 0, 1) := by decide +kernel
theorem dX12_text_145 : decode cX12_text 145 = .ok (.getfield 185, 3) := by decide +kernel
theorem dX12_text_148 : decode cX12_text 148 = .ok (.ifCond .ne 8, 3) := by decide +kernel
theorem dX12_text_151 : decode cX12_text 151 = .ok (.aload_n 0, 1) := by decide +kernel
theorem dX12_text_152 : decode cX12_text 152 = .ok (.iconst 5, 1) := by decide +kernel
theorem dX12_text_153 : decode cX12_text 153 = .ok (.invokevirtual 143, 3) := by decide +kernel
theorem dX12_text_156 : decode cX12_text 156 = .ok (.aload_n 0, 1) := by decide +kernel
theorem dX12_text_157 : decode cX12_text 157 = .ok (.getfield 82, 3) := by decide +kernel
theorem dX12_text_160 : decode cX12_text 160 = .ok (.ifCond .le 18, 3) := by decide +kernel
theorem dX12_text_163 : decode cX12_text 163 = .ok (.aload_n 0, 1) := by decide +kernel
theorem dX12_text_164 : decode cX12_text 164 = .ok (.iconst 4, 1) := by decide +kernel
theorem dX12_text_165 : decode cX12_text 165 = .ok (.putfield 76, 3) := by decide +kernel
theorem dX12_text_168 : decode cX12_text 168 = .ok (.aload_n 0, 1) := by decide +kernel
theorem dX12_text_169 : decode cX12_text 169 = .ok (.aload_n 0, 1) := by decide +kernel
theorem dX12_text_170 : decode cX12_text 170 = .ok (.getfield 88, 3) := by decide +kernel
theorem dX12_text_173 : decode cX12_text 173 = .ok (.putfield 9, 3) := by decide +kernel
theorem dX12_text_176 : decode cX12_text 176 = .ok (.iconst (-1), 1) := by decide +kernel
theorem dX12_text_177 : decode cX12_text 177 = .ok (.ireturn, 1) := by decide +kernel
theorem dX12_text_178 : decode cX12_text 178 = .ok (.iconst 0, 1) := by decide +kernel
theorem dX12_text_179 : decode cX12_text 179 = .ok (.istore_n 2, 1) := by decide +kernel
theorem dX12_text_180 : decode cX12_text 180 = .ok (.iload_n 2, 1) := by decide +kernel
theorem dX12_text_181 : decode cX12_text 181 = .ok (.sipush 534, 3) := by decide +kernel
theorem dX12_text_184 : decode cX12_text 184 = .ok (.if_icmp .ge 21, 3) := by decide +kernel
theorem dX12_text_187 : decode cX12_text 187 = .ok (.aload_n 0, 1) := by decide +kernel
theorem dX12_text_188 : decode cX12_text 188 = .ok (.getfield 17, 3) := by decide +kernel
theorem dX12_text_191 : decode cX12_text 191 = .ok (.iload_n 2, 1) := by decide +kernel
theorem dX12_text_192 : decode cX12_text 192 = .ok (.aload_n 0, 1) := by decide +kernel
theorem dX12_text_193 : decode cX12_text 193 = .ok (.getfield 20, 3) := by decide +kernel
theorem dX12_text_196 : decode cX12_text 196 = .ok (.iload_n 2, 1) := by decide +kernel
theorem dX12_text_197 : decode cX12_text 197 = .ok (.iaload, 1) := by decide +kernel
theorem dX12_text_198 : decode cX12_text 198 = .ok (.iastore, 1) := by decide +kernel
theorem dX12_text_199 : decode cX12_text 199 = .ok (.iinc 2 1, 3) := by decide +kernel
theorem dX12_text_202 : decode cX12_text 202 = .ok (.goto (-22), 3) := by decide +kernel
theorem dX12_text_205 : decode cX12_text 205 = .ok (.iconst 0, 1) := by decide +kernel
theorem dX12_text_206 : decode cX12_text 206 = .ok (.istore_n 2, 1) := by decide +kernel
theorem dX12_text_207 : decode cX12_text 207 = .ok (.iload_n 2, 1) := by decide +kernel
theorem dX12_text_208 : decode cX12_text 208 = .ok (.iconst 4, 1) := by decide +kernel
theorem dX12_text_209 : decode cX12_text 209 = .ok (.if_icmp .ge 21, 3) := by decide +kernel
theorem dX12_text_212 : decode cX12_text 212 = .ok (.aload_n 0, 1) := by decide +kernel
theorem dX12_text_213 : decode cX12_text 213 = .ok (.getfield 32, 3) := by decide +kernel
theorem dX12_text_216 : decode cX12_text 216 = .ok (.iload_n 2, 1) := by decide +kernel
theorem dX12_text_217 : decode cX12_text 217 = .ok (.aload_n 0, 1) := by decide +kernel
theorem dX12_text_218 : decode cX12_text 218 = .ok (.getfield 36, 3) := by decide +kernel
theorem dX12_text_221 : decode cX12_text 221 = .ok (.iload_n 2, 1) := by decide +kernel
theorem dX12_text_222 : decode cX12_text 222 = .ok (.laload, 1) := by decide +kernel
theorem dX12_text_223 : decode cX12_text 223 = .ok (.lastore, 1) := by decide +kernel
theorem dX12_text_224 : decode cX12_text 224 = .ok (.iinc 2 1, 3) := by decide +kernel
theorem dX12_text_227 : decode cX12_text 227 = .ok (.goto (-20), 3) := by decide +kernel
theorem dX12_text_230 : decode cX12_text 230 = .ok (.aload_n 0, 1) := by decide +kernel
theorem dX12_text_231 : decode cX12_text 231 = .ok (.aload_n 0, 1) := by decide +kernel
theorem dX12_text_232 : decode cX12_text 232 = .ok (.getfield 185, 3) := by decide +kernel
theorem dX12_text_235 : decode cX12_text 235 = .ok (.putfield 220, 3) := by decide +kernel
theorem dX12_text_238 : decode cX12_text 238 = .ok (.aload_n 0, 1) := by decide +kernel
theorem dX12_text_239 : decode cX12_text 239 = .ok (.aload_n 0, 1) := by decide +kernel
theorem dX12_text_240 : decode cX12_text 240 = .ok (.getfield 188, 3) := by decide +kernel
theorem dX12_text_243 : decode cX12_text 243 = .ok (.putfield 223, 3) := by decide +kernel
theorem dX12_text_246 : decode cX12_text 246 = .ok (.iconst 0, 1) := by decide +kernel
theorem dX12_text_247 : decode cX12_text 247 = .ok (.istore_n 2, 1) := by decide +kernel
theorem dX12_text_248 : decode cX12_text 248 = .ok (.iload_n 2, 1) := by decide +kernel
theorem dX12_text_249 : decode cX12_text 249 = .ok (.bipush 16, 2) := by decide +kernel
theorem dX12_text_251 : decode cX12_text 251 = .ok (.if_icmp .ge 21, 3) := by decide +kernel
theorem dX12_text_254 : decode cX12_text 254 = .ok (.aload_n 0, 1) := by decide +kernel
theorem dX12_text_255 : decode cX12_text 255 = .ok (.getfield 43, 3) := by decide +kernel
theorem dX12_text_258 : decode cX12_text 258 = .ok (.iload_n 2, 1) := by decide +kernel
theorem dX12_text_259 : decode cX12_text 259 = .ok (.aload_n 0, 1) := by decide +kernel
theorem dX12_text_260 : decode cX12_text 260 = .ok (.getfield 46, 3) := by decide +kernel
theorem dX12_text_263 : decode cX12_text 263 = .ok (.iload_n 2, 1) := by decide +kernel
theorem dX12_text_264 : decode cX12_text 264 = .ok (.iaload, 1) := by decide +kernel
theorem dX12_text_265 : decode cX12_text 265 = .ok (.iastore, 1) := by decide +kernel
theorem dX12_text_266 : decode cX12_text 266 = .ok (.iinc 2 1, 3) := by decide +kernel
theorem dX12_text_269 : decode cX12_text 269 = .ok (.goto (-21), 3) := by decide +kernel
theorem dX12_text_272 : decode cX12_text 272 = .ok (.aload_n 0, 1) := by decide +kernel
theorem dX12_text_273 : decode cX12_text 273 = .ok (.iconst 0, 1) := by decide +kernel
theorem dX12_text_274 : decode cX12_text 274 = .ok (.putfield 226, 3) := by decide +kernel
theorem dX12_text_277 : decode cX12_text 277 = .ok (.aload_n 0, 1) := by decide +kernel
theorem dX12_text_278 : decode cX12_text 278 = .ok (.iconst 1, 1) := by decide +kernel
theorem dX12_text_279 : decode cX12_text 279 = .ok (.putfield 229, 3) := by decide +kernel
theorem dX12_text_282 : decode cX12_text 282 = .ok (.aload_n 0, 1) := by decide +kernel
theorem dX12_text_283 : decode cX12_text 283 = .ok (.getfield 39, 3) := by decide +kernel
theorem dX12_text_286 : decode cX12_text 286 = .ok (.iconst 0, 1) := by decide +kernel
theorem dX12_text_287 : decode cX12_text 287 = .ok (.iconst 0, 1) := by decide +kernel
theorem dX12_text_288 : decode cX12_text 288 = .ok (.bastore, 1) := by decide +kernel
theorem dX12_text_289 : decode cX12_text 289 = .ok (.aload_n 0, 1) := by decide +kernel
theorem dX12_text_290 : decode cX12_text 290 = .ok (.getfield 39, 3) := by decide +kernel
theorem dX12_text_293 : decode cX12_text 293 = .ok (.iconst 1, 1) := by decide +kernel
theorem dX12_text_294 : decode cX12_text 294 = .ok (.iconst 0, 1) := by decide +kernel
theorem dX12_text_295 : decode cX12_text 295 = .ok (.bastore, 1) := by decide +kernel
theorem dX12_text_296 : decode cX12_text 296 = .ok (.aload_n 0, 1) := by decide +kernel
theorem dX12_text_297 : decode cX12_text 297 = .ok (.aload_n 0, 1) := by decide +kernel
theorem dX12_text_298 : decode cX12_text 298 = .ok (.getfield 220, 3) := by decide +kernel
theorem dX12_text_301 : decode cX12_text 301 = .ok (.invokevirtual 233, 3) := by decide +kernel
theorem dX12_text_304 : decode cX12_text 304 = .ok (.ireturn, 1) := by decide +kernel
theorem dX12_boughtAt_0 : decode cX12_boughtAt 0 = .ok (.aload_n 0, 1) := by decide +kernel
theorem dX12_boughtAt_1 : decode cX12_boughtAt 1 = .ok (.iload_n 1, 1) := by decide +kernel
theorem dX12_boughtAt_2 : decode cX12_boughtAt 2 = .ok (.iconst 2, 1) := by decide +kernel
theorem dX12_boughtAt_3 : decode cX12_boughtAt 3 = .ok (.invokevirtual 236, 3) := by decide +kernel
theorem dX12_boughtAt_6 : decode cX12_boughtAt 6 = .ok (.aload_n 0, 1) := by decide +kernel
theorem dX12_boughtAt_7 : decode cX12_boughtAt 7 = .ok (.iload_n 1, 1) := by decide +kernel
theorem dX12_boughtAt_8 : decode cX12_boughtAt 8 = .ok (.iconst 3, 1) := by decide +kernel
theorem dX12_boughtAt_9 : decode cX12_boughtAt 9 = .ok (.invokevirtual 236, 3) := by decide +kernel
theorem dX12_boughtAt_12 : decode cX12_boughtAt 12 = .ok (.iload_n 2, 1) := by decide +kernel
theorem dX12_boughtAt_13 : decode cX12_boughtAt 13 = .ok (.imul, 1) := by decide +kernel
theorem dX12_boughtAt_14 : decode cX12_boughtAt 14 = .ok (.isub, 1) := by decide +kernel
theorem dX12_boughtAt_15 : decode cX12_boughtAt 15 = .ok (.istore_n 3, 1) := by decide +kernel
theorem dX12_boughtAt_16 : decode cX12_boughtAt 16 = .ok (.iload_n 3, 1) := by decide +kernel
theorem dX12_boughtAt_17 : decode cX12_boughtAt 17 = .ok (.ifCond .le 7, 3) := by decide +kernel
theorem dX12_boughtAt_20 : decode cX12_boughtAt 20 = .ok (.iload_n 3, 1) := by decide +kernel
theorem dX12_boughtAt_21 : decode cX12_boughtAt 21 = .ok (.goto 4, 3) := by decide +kernel
theorem dX12_boughtAt_24 : decode cX12_boughtAt 24 = .ok (.iconst 0, 1) := by decide +kernel
theorem dX12_boughtAt_25 : decode cX12_boughtAt 25 = .ok (.ireturn, 1) := by decide +kernel
theorem dX12_profitAt_0 : decode cX12_profitAt 0 = .ok (.aload_n 0, 1) := by decide +kernel
theorem dX12_profitAt_1 : decode cX12_profitAt 1 = .ok (.iload_n 1, 1) := by decide +kernel
theorem dX12_profitAt_2 : decode cX12_profitAt 2 = .ok (.iload_n 2, 1) := by decide +kernel
theorem dX12_profitAt_3 : decode cX12_profitAt 3 = .ok (.invokevirtual 239, 3) := by decide +kernel
theorem dX12_profitAt_6 : decode cX12_profitAt 6 = .ok (.iload_n 2, 1) := by decide +kernel
theorem dX12_profitAt_7 : decode cX12_profitAt 7 = .ok (.aload_n 0, 1) := by decide +kernel
theorem dX12_profitAt_8 : decode cX12_profitAt 8 = .ok (.iload_n 1, 1) := by decide +kernel
theorem dX12_profitAt_9 : decode cX12_profitAt 9 = .ok (.iconst 4, 1) := by decide +kernel
theorem dX12_profitAt_10 : decode cX12_profitAt 10 = .ok (.invokevirtual 236, 3) := by decide +kernel
theorem dX12_profitAt_13 : decode cX12_profitAt 13 = .ok (.isub, 1) := by decide +kernel
theorem dX12_profitAt_14 : decode cX12_profitAt 14 = .ok (.imul, 1) := by decide +kernel
theorem dX12_profitAt_15 : decode cX12_profitAt 15 = .ok (.ireturn, 1) := by decide +kernel
theorem dX12_goodAt_0 : decode cX12_goodAt 0 = .ok (.aload_n 0, 1) := by decide +kernel
theorem dX12_goodAt_1 : decode cX12_goodAt 1 = .ok (.iload_n 1, 1) := by decide +kernel
theorem dX12_goodAt_2 : decode cX12_goodAt 2 = .ok (.iload_n 2, 1) := by decide +kernel
theorem dX12_goodAt_3 : decode cX12_goodAt 3 = .ok (.invokevirtual 242, 3) := by decide +kernel
theorem dX12_goodAt_6 : decode cX12_goodAt 6 = .ok (.istore_n 3, 1) := by decide +kernel
theorem dX12_goodAt_7 : decode cX12_goodAt 7 = .ok (.iload_n 2, 1) := by decide +kernel
theorem dX12_goodAt_8 : decode cX12_goodAt 8 = .ok (.iconst 1, 1) := by decide +kernel
theorem dX12_goodAt_9 : decode cX12_goodAt 9 = .ok (.iadd, 1) := by decide +kernel
theorem dX12_goodAt_10 : decode cX12_goodAt 10 = .ok (.istore 4, 2) := by decide +kernel
theorem dX12_goodAt_12 : decode cX12_goodAt 12 = .ok (.iload 4, 2) := by decide +kernel
theorem dX12_goodAt_14 : decode cX12_goodAt 14 = .ok (.bipush 20, 2) := by decide +kernel
theorem dX12_goodAt_16 : decode cX12_goodAt 16 = .ok (.if_icmp .gt 19, 3) := by decide +kernel
theorem dX12_goodAt_19 : decode cX12_goodAt 19 = .ok (.iload_n 3, 1) := by decide +kernel
theorem dX12_goodAt_20 : decode cX12_goodAt 20 = .ok (.aload_n 0, 1) := by decide +kernel
theorem dX12_goodAt_21 : decode cX12_goodAt 21 = .ok (.iload_n 1, 1) := by decide +kernel
theorem dX12_goodAt_22 : decode cX12_goodAt 22 = .ok (.iload 4, 2) := by decide +kernel
theorem dX12_goodAt_24 : decode cX12_goodAt 24 = .ok (.invokevirtual 239, 3) := by decide +kernel
theorem dX12_goodAt_27 : decode cX12_goodAt 27 = .ok (.iadd, 1) := by decide +kernel
theorem dX12_goodAt_28 : decode cX12_goodAt 28 = .ok (.istore_n 3, 1) := by decide +kernel
theorem dX12_goodAt_29 : decode cX12_goodAt 29 = .ok (.iinc 4 1, 3) := by decide +kernel
theorem dX12_goodAt_32 : decode cX12_goodAt 32 = .ok (.goto (-20), 3) := by decide +kernel
theorem dX12_goodAt_35 : decode cX12_goodAt 35 = .ok (.iload_n 3, 1) := by decide +kernel
theorem dX12_goodAt_36 : decode cX12_goodAt 36 = .ok (.ireturn, 1) := by decide +kernel
theorem dX12_weight_0 : decode cX12_weight 0 = .ok (.aload_n 0, 1) := by decide +kernel
theorem dX12_weight_1 : decode cX12_weight 1 = .ok (.iload_n 1, 1) := by decide +kernel
theorem dX12_weight_2 : decode cX12_weight 2 = .ok (.aload_n 0, 1) := by decide +kernel
theorem dX12_weight_3 : decode cX12_weight 3 = .ok (.iload_n 1, 1) := by decide +kernel
theorem dX12_weight_4 : decode cX12_weight 4 = .ok (.iconst 0, 1) := by decide +kernel
theorem dX12_weight_5 : decode cX12_weight 5 = .ok (.invokevirtual 236, 3) := by decide +kernel
theorem dX12_weight_8 : decode cX12_weight 8 = .ok (.invokevirtual 239, 3) := by decide +kernel
theorem dX12_weight_11 : decode cX12_weight 11 = .ok (.ireturn, 1) := by decide +kernel
theorem dX12_rate_0 : decode cX12_rate 0 = .ok (.bipush 100, 2) := by decide +kernel
theorem dX12_rate_2 : decode cX12_rate 2 = .ok (.aload_n 0, 1) := by decide +kernel
theorem dX12_rate_3 : decode cX12_rate 3 = .ok (.getfield 17, 3) := by decide +kernel
theorem dX12_rate_6 : decode cX12_rate 6 = .ok (.bipush 28, 2) := by decide +kernel
theorem dX12_rate_8 : decode cX12_rate 8 = .ok (.iaload, 1) := by decide +kernel
theorem dX12_rate_9 : decode cX12_rate 9 = .ok (.iadd, 1) := by decide +kernel
theorem dX12_rate_10 : decode cX12_rate 10 = .ok (.aload_n 0, 1) := by decide +kernel
theorem dX12_rate_11 : decode cX12_rate 11 = .ok (.getfield 17, 3) := by decide +kernel
theorem dX12_rate_14 : decode cX12_rate 14 = .ok (.bipush 29, 2) := by decide +kernel
theorem dX12_rate_16 : decode cX12_rate 16 = .ok (.iaload, 1) := by decide +kernel
theorem dX12_rate_17 : decode cX12_rate 17 = .ok (.isub, 1) := by decide +kernel
theorem dX12_rate_18 : decode cX12_rate 18 = .ok (.ireturn, 1) := by decide +kernel
theorem dX12_base_0 : decode cX12_base 0 = .ok (.iconst 0, 1) := by decide +kernel
theorem dX12_base_1 : decode cX12_base 1 = .ok (.istore_n 1, 1) := by decide +kernel
theorem dX12_base_2 : decode cX12_base 2 = .ok (.iconst 0, 1) := by decide +kernel
theorem dX12_base_3 : decode cX12_base 3 = .ok (.istore_n 2, 1) := by decide +kernel
theorem dX12_base_4 : decode cX12_base 4 = .ok (.iload_n 2, 1) := by decide +kernel
theorem dX12_base_5 : decode cX12_base 5 = .ok (.aload_n 0, 1) := by decide +kernel
theorem dX12_base_6 : decode cX12_base 6 = .ok (.getfield 220, 3) := by decide +kernel
theorem dX12_base_9 : decode cX12_base 9 = .ok (.if_icmp .ge 24, 3) := by decide +kernel
theorem dX12_base_12 : decode cX12_base 12 = .ok (.iload_n 1, 1) := by decide +kernel
theorem dX12_base_13 : decode cX12_base 13 = .ok (.aload_n 0, 1) := by decide +kernel
theorem dX12_base_14 : decode cX12_base 14 = .ok (.iload_n 2, 1) := by decide +kernel
theorem dX12_base_15 : decode cX12_base 15 = .ok (.iconst 0, 1) := by decide +kernel
theorem dX12_base_16 : decode cX12_base 16 = .ok (.invokevirtual 236, 3) := by decide +kernel
theorem dX12_base_19 : decode cX12_base 19 = .ok (.aload_n 0, 1) := by decide +kernel
theorem dX12_base_20 : decode cX12_base 20 = .ok (.iload_n 2, 1) := by decide +kernel
theorem dX12_base_21 : decode cX12_base 21 = .ok (.invokevirtual 245, 3) := by decide +kernel
theorem dX12_base_24 : decode cX12_base 24 = .ok (.imul, 1) := by decide +kernel
theorem dX12_base_25 : decode cX12_base 25 = .ok (.iadd, 1) := by decide +kernel
theorem dX12_base_26 : decode cX12_base 26 = .ok (.istore_n 1, 1) := by decide +kernel
theorem dX12_base_27 : decode cX12_base 27 = .ok (.iinc 2 1, 3) := by decide +kernel
theorem dX12_base_30 : decode cX12_base 30 = .ok (.goto (-26), 3) := by decide +kernel
theorem dX12_base_33 : decode cX12_base 33 = .ok (.iload_n 1, 1) := by decide +kernel
theorem dX12_base_34 : decode cX12_base 34 = .ok (.ireturn, 1) := by decide +kernel
theorem dX12_dues_0 : decode cX12_dues 0 = .ok (.iconst 0, 1) := by decide +kernel
theorem dX12_dues_1 : decode cX12_dues 1 = .ok (.istore_n 1, 1) := by decide +kernel
theorem dX12_dues_2 : decode cX12_dues 2 = .ok (.iconst 0, 1) := by decide +kernel
theorem dX12_dues_3 : decode cX12_dues 3 = .ok (.istore_n 2, 1) := by decide +kernel
theorem dX12_dues_4 : decode cX12_dues 4 = .ok (.iload_n 2, 1) := by decide +kernel
theorem dX12_dues_5 : decode cX12_dues 5 = .ok (.aload_n 0, 1) := by decide +kernel
theorem dX12_dues_6 : decode cX12_dues 6 = .ok (.getfield 220, 3) := by decide +kernel
theorem dX12_dues_9 : decode cX12_dues 9 = .ok (.if_icmp .ge 54, 3) := by decide +kernel
theorem dX12_dues_12 : decode cX12_dues 12 = .ok (.iload_n 1, 1) := by decide +kernel
theorem dX12_dues_13 : decode cX12_dues 13 = .ok (.aload_n 0, 1) := by decide +kernel
theorem dX12_dues_14 : decode cX12_dues 14 = .ok (.iload_n 2, 1) := by decide +kernel
theorem dX12_dues_15 : decode cX12_dues 15 = .ok (.bipush 6, 2) := by decide +kernel
theorem dX12_dues_17 : decode cX12_dues 17 = .ok (.invokevirtual 236, 3) := by decide +kernel
theorem dX12_dues_20 : decode cX12_dues 20 = .ok (.aload_n 0, 1) := by decide +kernel
theorem dX12_dues_21 : decode cX12_dues 21 = .ok (.iload_n 2, 1) := by decide +kernel
theorem dX12_dues_22 : decode cX12_dues 22 = .ok (.iconst 5, 1) := by decide +kernel
theorem dX12_dues_23 : decode cX12_dues 23 = .ok (.invokevirtual 236, 3) := by decide +kernel
theorem dX12_dues_26 : decode cX12_dues 26 = .ok (.if_icmp .le 28, 3) := by decide +kernel
theorem dX12_dues_29 : decode cX12_dues 29 = .ok (.aload_n 0, 1) := by decide +kernel
theorem dX12_dues_30 : decode cX12_dues 30 = .ok (.iload_n 2, 1) := by decide +kernel
theorem dX12_dues_31 : decode cX12_dues 31 = .ok (.bipush 6, 2) := by decide +kernel
theorem dX12_dues_33 : decode cX12_dues 33 = .ok (.invokevirtual 236, 3) := by decide +kernel
theorem dX12_dues_36 : decode cX12_dues 36 = .ok (.aload_n 0, 1) := by decide +kernel
theorem dX12_dues_37 : decode cX12_dues 37 = .ok (.iload_n 2, 1) := by decide +kernel
theorem dX12_dues_38 : decode cX12_dues 38 = .ok (.iconst 5, 1) := by decide +kernel
theorem dX12_dues_39 : decode cX12_dues 39 = .ok (.invokevirtual 236, 3) := by decide +kernel
theorem dX12_dues_42 : decode cX12_dues 42 = .ok (.isub, 1) := by decide +kernel
theorem dX12_dues_43 : decode cX12_dues 43 = .ok (.aload_n 0, 1) := by decide +kernel
theorem dX12_dues_44 : decode cX12_dues 44 = .ok (.getfield 17, 3) := by decide +kernel
theorem dX12_dues_47 : decode cX12_dues 47 = .ok (.bipush 31, 2) := by decide +kernel
theorem dX12_dues_49 : decode cX12_dues 49 = .ok (.iaload, 1) := by decide +kernel
theorem dX12_dues_50 : decode cX12_dues 50 = .ok (.imul, 1) := by decide +kernel
theorem dX12_dues_51 : decode cX12_dues 51 = .ok (.goto 4, 3) := by decide +kernel
theorem dX12_dues_54 : decode cX12_dues 54 = .ok (.iconst 0, 1) := by decide +kernel
theorem dX12_dues_55 : decode cX12_dues 55 = .ok (.iadd, 1) := by decide +kernel
theorem dX12_dues_56 : decode cX12_dues 56 = .ok (.istore_n 1, 1) := by decide +kernel
theorem dX12_dues_57 : decode cX12_dues 57 = .ok (.iinc 2 1, 3) := by decide +kernel
theorem dX12_dues_60 : decode cX12_dues 60 = .ok (.goto (-56), 3) := by decide +kernel
theorem dX12_dues_63 : decode cX12_dues 63 = .ok (.iload_n 1, 1) := by decide +kernel
theorem dX12_dues_64 : decode cX12_dues 64 = .ok (.ireturn, 1) := by decide +kernel
theorem dX12_allowed_0 : decode cX12_allowed 0 = .ok (.aload_n 0, 1) := by decide +kernel
theorem dX12_allowed_1 : decode cX12_allowed 1 = .ok (.invokevirtual 248, 3) := by decide +kernel
theorem dX12_allowed_4 : decode cX12_allowed 4 = .ok (.aload_n 0, 1) := by decide +kernel
theorem dX12_allowed_5 : decode cX12_allowed 5 = .ok (.invokevirtual 251, 3) := by decide +kernel
theorem dX12_allowed_8 : decode cX12_allowed 8 = .ok (.imul, 1) := by decide +kernel
theorem dX12_allowed_9 : decode cX12_allowed 9 = .ok (.bipush 100, 2) := by decide +kernel
theorem dX12_allowed_11 : decode cX12_allowed 11 = .ok (.idiv, 1) := by decide +kernel
theorem dX12_allowed_12 : decode cX12_allowed 12 = .ok (.aload_n 0, 1) := by decide +kernel
theorem dX12_allowed_13 : decode cX12_allowed 13 = .ok (.getfield 17, 3) := by decide +kernel
theorem dX12_allowed_16 : decode cX12_allowed 16 = .ok (.bipush 33, 2) := by decide +kernel
theorem dX12_allowed_18 : decode cX12_allowed 18 = .ok (.iaload, 1) := by decide +kernel
theorem dX12_allowed_19 : decode cX12_allowed 19 = .ok (.iadd, 1) := by decide +kernel
theorem dX12_allowed_20 : decode cX12_allowed 20 = .ok (.aload_n 0, 1) := by decide +kernel
theorem dX12_allowed_21 : decode cX12_allowed 21 = .ok (.invokevirtual 254, 3) := by decide +kernel
theorem dX12_allowed_24 : decode cX12_allowed 24 = .ok (.isub, 1) := by decide +kernel
theorem dX12_allowed_25 : decode cX12_allowed 25 = .ok (.istore_n 1, 1) := by decide +kernel
theorem dX12_allowed_26 : decode cX12_allowed 26 = .ok (.iload_n 1, 1) := by decide +kernel
theorem dX12_allowed_27 : decode cX12_allowed 27 = .ok (.ifCond .le 7, 3) := by decide +kernel
theorem dX12_allowed_30 : decode cX12_allowed 30 = .ok (.iload_n 1, 1) := by decide +kernel
theorem dX12_allowed_31 : decode cX12_allowed 31 = .ok (.goto 4, 3) := by decide +kernel
theorem dX12_allowed_34 : decode cX12_allowed 34 = .ok (.iconst 0, 1) := by decide +kernel
theorem dX12_allowed_35 : decode cX12_allowed 35 = .ok (.ireturn, 1) := by decide +kernel
theorem dX12_spent_0 : decode cX12_spent 0 = .ok (.iconst 0, 1) := by decide +kernel
theorem dX12_spent_1 : decode cX12_spent 1 = .ok (.istore_n 1, 1) := by decide +kernel
theorem dX12_spent_2 : decode cX12_spent 2 = .ok (.iconst 0, 1) := by decide +kernel
theorem dX12_spent_3 : decode cX12_spent 3 = .ok (.istore_n 2, 1) := by decide +kernel
theorem dX12_spent_4 : decode cX12_spent 4 = .ok (.iload_n 2, 1) := by decide +kernel
theorem dX12_spent_5 : decode cX12_spent 5 = .ok (.aload_n 0, 1) := by decide +kernel
theorem dX12_spent_6 : decode cX12_spent 6 = .ok (.getfield 220, 3) := by decide +kernel
theorem dX12_spent_9 : decode cX12_spent 9 = .ok (.if_icmp .ge 24, 3) := by decide +kernel
theorem dX12_spent_12 : decode cX12_spent 12 = .ok (.iload_n 1, 1) := by decide +kernel
theorem dX12_spent_13 : decode cX12_spent 13 = .ok (.aload_n 0, 1) := by decide +kernel
theorem dX12_spent_14 : decode cX12_spent 14 = .ok (.iload_n 2, 1) := by decide +kernel
theorem dX12_spent_15 : decode cX12_spent 15 = .ok (.iconst 1, 1) := by decide +kernel
theorem dX12_spent_16 : decode cX12_spent 16 = .ok (.invokevirtual 236, 3) := by decide +kernel
theorem dX12_spent_19 : decode cX12_spent 19 = .ok (.aload_n 0, 1) := by decide +kernel
theorem dX12_spent_20 : decode cX12_spent 20 = .ok (.iload_n 2, 1) := by decide +kernel
theorem dX12_spent_21 : decode cX12_spent 21 = .ok (.invokevirtual 245, 3) := by decide +kernel
theorem dX12_spent_24 : decode cX12_spent 24 = .ok (.imul, 1) := by decide +kernel
theorem dX12_spent_25 : decode cX12_spent 25 = .ok (.iadd, 1) := by decide +kernel
theorem dX12_spent_26 : decode cX12_spent 26 = .ok (.istore_n 1, 1) := by decide +kernel
theorem dX12_spent_27 : decode cX12_spent 27 = .ok (.iinc 2 1, 3) := by decide +kernel
theorem dX12_spent_30 : decode cX12_spent 30 = .ok (.goto (-26), 3) := by decide +kernel
theorem dX12_spent_33 : decode cX12_spent 33 = .ok (.iload_n 1, 1) := by decide +kernel
theorem dX12_spent_34 : decode cX12_spent 34 = .ok (.ireturn, 1) := by decide +kernel
theorem dX12_isKept_0 : decode cX12_isKept 0 = .ok (.aload_n 0, 1) := by decide +kernel
theorem dX12_isKept_1 : decode cX12_isKept 1 = .ok (.invokevirtual 257, 3) := by decide +kernel
theorem dX12_isKept_4 : decode cX12_isKept 4 = .ok (.aload_n 0, 1) := by decide +kernel
theorem dX12_isKept_5 : decode cX12_isKept 5 = .ok (.invokevirtual 260, 3) := by decide +kernel
theorem dX12_isKept_8 : decode cX12_isKept 8 = .ok (.if_icmp .gt 7, 3) := by decide +kernel
theorem dX12_isKept_11 : decode cX12_isKept 11 = .ok (.iconst 1, 1) := by decide +kernel
theorem dX12_isKept_12 : decode cX12_isKept 12 = .ok (.goto 4, 3) := by decide +kernel
theorem dX12_isKept_15 : decode cX12_isKept 15 = .ok (.iconst 0, 1) := by decide +kernel
theorem dX12_isKept_16 : decode cX12_isKept 16 = .ok (.ireturn, 1) := by decide +kernel
theorem dX12_off_0 : decode cX12_off 0 = .ok (.iconst 0, 1) := by decide +kernel
theorem dX12_off_1 : decode cX12_off 1 = .ok (.istore_n 2, 1) := by decide +kernel
theorem dX12_off_2 : decode cX12_off 2 = .ok (.iconst 0, 1) := by decide +kernel
theorem dX12_off_3 : decode cX12_off 3 = .ok (.istore_n 3, 1) := by decide +kernel
theorem dX12_off_4 : decode cX12_off 4 = .ok (.iload_n 3, 1) := by decide +kernel
theorem dX12_off_5 : decode cX12_off 5 = .ok (.aload_n 0, 1) := by decide +kernel
theorem dX12_off_6 : decode cX12_off 6 = .ok (.getfield 220, 3) := by decide +kernel
theorem dX12_off_9 : decode cX12_off 9 = .ok (.if_icmp .ge 56, 3) := by decide +kernel
theorem dX12_off_12 : decode cX12_off 12 = .ok (.iload_n 2, 1) := by decide +kernel
theorem dX12_off_13 : decode cX12_off 13 = .ok (.aload_n 0, 1) := by decide +kernel
theorem dX12_off_14 : decode cX12_off 14 = .ok (.iload_n 3, 1) := by decide +kernel
theorem dX12_off_15 : decode cX12_off 15 = .ok (.iload_n 1, 1) := by decide +kernel
theorem dX12_off_16 : decode cX12_off 16 = .ok (.invokevirtual 236, 3) := by decide +kernel
theorem dX12_off_19 : decode cX12_off 19 = .ok (.aload_n 0, 1) := by decide +kernel
theorem dX12_off_20 : decode cX12_off 20 = .ok (.iload_n 3, 1) := by decide +kernel
theorem dX12_off_21 : decode cX12_off 21 = .ok (.iconst 4, 1) := by decide +kernel
theorem dX12_off_22 : decode cX12_off 22 = .ok (.invokevirtual 236, 3) := by decide +kernel
theorem dX12_off_25 : decode cX12_off 25 = .ok (.if_icmp .le 19, 3) := by decide +kernel
theorem dX12_off_28 : decode cX12_off 28 = .ok (.aload_n 0, 1) := by decide +kernel
theorem dX12_off_29 : decode cX12_off 29 = .ok (.iload_n 3, 1) := by decide +kernel
theorem dX12_off_30 : decode cX12_off 30 = .ok (.iload_n 1, 1) := by decide +kernel
theorem dX12_off_31 : decode cX12_off 31 = .ok (.invokevirtual 236, 3) := by decide +kernel
theorem dX12_off_34 : decode cX12_off 34 = .ok (.aload_n 0, 1) := by decide +kernel
theorem dX12_off_35 : decode cX12_off 35 = .ok (.iload_n 3, 1) := by decide +kernel
theorem dX12_off_36 : decode cX12_off 36 = .ok (.iconst 4, 1) := by decide +kernel
theorem dX12_off_37 : decode cX12_off 37 = .ok (.invokevirtual 236, 3) := by decide +kernel
theorem dX12_off_40 : decode cX12_off 40 = .ok (.isub, 1) := by decide +kernel
theorem dX12_off_41 : decode cX12_off 41 = .ok (.goto 16, 3) := by decide +kernel
theorem dX12_off_44 : decode cX12_off 44 = .ok (.aload_n 0, 1) := by decide +kernel
theorem dX12_off_45 : decode cX12_off 45 = .ok (.iload_n 3, 1) := by decide +kernel
theorem dX12_off_46 : decode cX12_off 46 = .ok (.iconst 4, 1) := by decide +kernel
theorem dX12_off_47 : decode cX12_off 47 = .ok (.invokevirtual 236, 3) := by decide +kernel
theorem dX12_off_50 : decode cX12_off 50 = .ok (.aload_n 0, 1) := by decide +kernel
theorem dX12_off_51 : decode cX12_off 51 = .ok (.iload_n 3, 1) := by decide +kernel
theorem dX12_off_52 : decode cX12_off 52 = .ok (.iload_n 1, 1) := by decide +kernel
theorem dX12_off_53 : decode cX12_off 53 = .ok (.invokevirtual 236, 3) := by decide +kernel
theorem dX12_off_56 : decode cX12_off 56 = .ok (.isub, 1) := by decide +kernel
theorem dX12_off_57 : decode cX12_off 57 = .ok (.iadd, 1) := by decide +kernel
theorem dX12_off_58 : decode cX12_off 58 = .ok (.istore_n 2, 1) := by decide +kernel
theorem dX12_off_59 : decode cX12_off 59 = .ok (.iinc 3 1, 3) := by decide +kernel
theorem dX12_off_62 : decode cX12_off 62 = .ok (.goto (-58), 3) := by decide +kernel
theorem dX12_off_65 : decode cX12_off 65 = .ok (.iload_n 2, 1) := by decide +kernel
theorem dX12_off_66 : decode cX12_off 66 = .ok (.ireturn, 1) := by decide +kernel
theorem dX12_all_0 : decode cX12_all 0 = .ok (.iconst 0, 1) := by decide +kernel
theorem dX12_all_1 : decode cX12_all 1 = .ok (.istore_n 2, 1) := by decide +kernel
theorem dX12_all_2 : decode cX12_all 2 = .ok (.iconst 0, 1) := by decide +kernel
theorem dX12_all_3 : decode cX12_all 3 = .ok (.istore_n 3, 1) := by decide +kernel
theorem dX12_all_4 : decode cX12_all 4 = .ok (.iload_n 3, 1) := by decide +kernel
theorem dX12_all_5 : decode cX12_all 5 = .ok (.aload_n 0, 1) := by decide +kernel
theorem dX12_all_6 : decode cX12_all 6 = .ok (.getfield 220, 3) := by decide +kernel
theorem dX12_all_9 : decode cX12_all 9 = .ok (.if_icmp .ge 41, 3) := by decide +kernel
theorem dX12_all_12 : decode cX12_all 12 = .ok (.iload_n 2, 1) := by decide +kernel
theorem dX12_all_13 : decode cX12_all 13 = .ok (.iload_n 1, 1) := by decide +kernel
theorem dX12_all_14 : decode cX12_all 14 = .ok (.ifCond .eq 17, 3) := by decide +kernel
theorem dX12_all_17 : decode cX12_all 17 = .ok (.aload_n 0, 1) := by decide +kernel
theorem dX12_all_18 : decode cX12_all 18 = .ok (.iload_n 3, 1) := by decide +kernel
theorem dX12_all_19 : decode cX12_all 19 = .ok (.aload_n 0, 1) := by decide +kernel
theorem dX12_all_20 : decode cX12_all 20 = .ok (.iload_n 3, 1) := by decide +kernel
theorem dX12_all_21 : decode cX12_all 21 = .ok (.iconst 1, 1) := by decide +kernel
theorem dX12_all_22 : decode cX12_all 22 = .ok (.invokevirtual 236, 3) := by decide +kernel
theorem dX12_all_25 : decode cX12_all 25 = .ok (.invokevirtual 263, 3) := by decide +kernel
theorem dX12_all_28 : decode cX12_all 28 = .ok (.goto 14, 3) := by decide +kernel
theorem dX12_all_31 : decode cX12_all 31 = .ok (.aload_n 0, 1) := by decide +kernel
theorem dX12_all_32 : decode cX12_all 32 = .ok (.iload_n 3, 1) := by decide +kernel
theorem dX12_all_33 : decode cX12_all 33 = .ok (.aload_n 0, 1) := by decide +kernel
theorem dX12_all_34 : decode cX12_all 34 = .ok (.iload_n 3, 1) := by decide +kernel
theorem dX12_all_35 : decode cX12_all 35 = .ok (.iconst 1, 1) := by decide +kernel
theorem dX12_all_36 : decode cX12_all 36 = .ok (.invokevirtual 236, 3) := by decide +kernel
theorem dX12_all_39 : decode cX12_all 39 = .ok (.invokevirtual 242, 3) := by decide +kernel
theorem dX12_all_42 : decode cX12_all 42 = .ok (.iadd, 1) := by decide +kernel
theorem dX12_all_43 : decode cX12_all 43 = .ok (.istore_n 2, 1) := by decide +kernel
theorem dX12_all_44 : decode cX12_all 44 = .ok (.iinc 3 1, 3) := by decide +kernel
theorem dX12_all_47 : decode cX12_all 47 = .ok (.goto (-43), 3) := by decide +kernel
theorem dX12_all_50 : decode cX12_all 50 = .ok (.iload_n 2, 1) := by decide +kernel
theorem dX12_all_51 : decode cX12_all 51 = .ok (.ireturn, 1) := by decide +kernel
theorem dX12_isService_0 : decode cX12_isService 0 = .ok (.aload_n 0, 1) := by decide +kernel
theorem dX12_isService_1 : decode cX12_isService 1 = .ok (.getfield 229, 3) := by decide +kernel
theorem dX12_isService_4 : decode cX12_isService 4 = .ok (.ifCond .eq 21, 3) := by decide +kernel
theorem dX12_isService_7 : decode cX12_isService 7 = .ok (.iload_n 1, 1) := by decide +kernel
theorem dX12_isService_8 : decode cX12_isService 8 = .ok (.iconst 0, 1) := by decide +kernel
theorem dX12_isService_9 : decode cX12_isService 9 = .ok (.aload_n 0, 1) := by decide +kernel
theorem dX12_isService_10 : decode cX12_isService 10 = .ok (.getfield 220, 3) := by decide +kernel
theorem dX12_isService_13 : decode cX12_isService 13 = .ok (.iconst 1, 1) := by decide +kernel
theorem dX12_isService_14 : decode cX12_isService 14 = .ok (.isub, 1) := by decide +kernel
theorem dX12_isService_15 : decode cX12_isService 15 = .ok (.invokestatic 94, 3) := by decide +kernel
theorem dX12_isService_18 : decode cX12_isService 18 = .ok (.ifCond .eq 7, 3) := by decide +kernel
theorem dX12_isService_21 : decode cX12_isService 21 = .ok (.iconst 1, 1) := by decide +kernel
theorem dX12_isService_22 : decode cX12_isService 22 = .ok (.goto 4, 3) := by decide +kernel
theorem dX12_isService_25 : decode cX12_isService 25 = .ok (.iconst 0, 1) := by decide +kernel
theorem dX12_isService_26 : decode cX12_isService 26 = .ok (.ireturn, 1) := by decide +kernel
theorem dX12_isPrice_0 : decode cX12_isPrice 0 = .ok (.iload_n 0, 1) := by decide +kernel
theorem dX12_isPrice_1 : decode cX12_isPrice 1 = .ok (.iconst 0, 1) := by decide +kernel
theorem dX12_isPrice_2 : decode cX12_isPrice 2 = .ok (.bipush 20, 2) := by decide +kernel
theorem dX12_isPrice_4 : decode cX12_isPrice 4 = .ok (.invokestatic 94, 3) := by decide +kernel
theorem dX12_isPrice_7 : decode cX12_isPrice 7 = .ok (.ireturn, 1) := by decide +kernel
theorem dX12_about_0 : decode cX12_about 0 = .ok (.aload_n 0, 1) := by decide +kernel
theorem dX12_about_1 : decode cX12_about 1 = .ok (.iconst 0, 1) := by decide +kernel
theorem dX12_about_2 : decode cX12_about 2 = .ok (.putfield 73, 3) := by decide +kernel
theorem dX12_about_5 : decode cX12_about 5 = .ok (.aload_n 0, 1) := by decide +kernel
theorem dX12_about_6 : decode cX12_about 6 = .ok (.getfield 229, 3) := by decide +kernel
theorem dX12_about_9 : decode cX12_about 9 = .ok (.ifCond .ne 9, 3) := by decide +kernel
theorem dX12_about_12 : decode cX12_about 12 = .ok (.aload_n 0, 1) := by decide +kernel
theorem dX12_about_13 : decode cX12_about 13 = .ok (.iconst 1, 1) := by decide +kernel
theorem dX12_about_14 : decode cX12_about 14 = .ok (.invokevirtual 213, 3) := by decide +kernel
theorem dX12_about_17 : decode cX12_about 17 = .ok (.ireturn, 1) := by decide +kernel
theorem dX12_about_18 : decode cX12_about 18 = .ok (.iconst 0, 1) := by decide +kernel
theorem dX12_about_19 : decode cX12_about 19 = .ok (.istore_n 2, 1) := by decide +kernel
theorem dX12_about_20 : decode cX12_about 20 = .ok (.iconst 0, 1) := by decide +kernel
theorem dX12_about_21 : decode cX12_about 21 = .ok (.istore_n 3, 1) := by decide +kernel
theorem dX12_about_22 : decode cX12_about 22 = .ok (.iload_n 3, 1) := by decide +kernel
theorem dX12_about_23 : decode cX12_about 23 = .ok (.aload_n 0, 1) := by decide +kernel
theorem dX12_about_24 : decode cX12_about 24 = .ok (.getfield 220, 3) := by decide +kernel
theorem dX12_about_27 : decode cX12_about 27 = .ok (.if_icmp .ge 17, 3) := by decide +kernel
theorem dX12_about_30 : decode cX12_about 30 = .ok (.iload_n 2, 1) := by decide +kernel
theorem dX12_about_31 : decode cX12_about 31 = .ok (.aload_n 0, 1) := by decide +kernel
theorem dX12_about_32 : decode cX12_about 32 = .ok (.iload_n 3, 1) := by decide +kernel
theorem dX12_about_33 : decode cX12_about 33 = .ok (.invokevirtual 245, 3) := by decide +kernel
theorem dX12_about_36 : decode cX12_about 36 = .ok (.iadd, 1) := by decide +kernel
theorem dX12_about_37 : decode cX12_about 37 = .ok (.istore_n 2, 1) := by decide +kernel
theorem dX12_about_38 : decode cX12_about 38 = .ok (.iinc 3 1, 3) := by decide +kernel
theorem dX12_about_41 : decode cX12_about 41 = .ok (.goto (-19), 3) := by decide +kernel
theorem dX12_about_44 : decode cX12_about 44 = .ok (.iload_n 1, 1) := by decide +kernel
theorem dX12_about_45 : decode cX12_about 45 = .ok (.tableswitch 181 0 11 #[63, 72, 84, 93, 99, 108, 117, 126, 135, 152, 161, 171], 63) := by decide +kernel
theorem dX12_about_108 : decode cX12_about 108 = .ok (.aload_n 0, 1) := by decide +kernel
theorem dX12_about_109 : decode cX12_about 109 = .ok (.aload_n 0, 1) := by decide +kernel
theorem dX12_about_110 : decode cX12_about 110 = .ok (.getfield 220, 3) := by decide +kernel
theorem dX12_about_113 : decode cX12_about 113 = .ok (.invokevirtual 233, 3) := by decide +kernel
theorem dX12_about_116 : decode cX12_about 116 = .ok (.ireturn, 1) := by decide +kernel
theorem dX12_about_117 : decode cX12_about 117 = .ok (.aload_n 0, 1) := by decide +kernel
theorem dX12_about_118 : decode cX12_about 118 = .ok (.aload_n 0, 1) := by decide +kernel
theorem dX12_about_119 : decode cX12_about 119 = .ok (.getfield 17, 3) := by decide +kernel
theorem dX12_about_122 : decode cX12_about 122 = .ok (.bipush 32, 2) := by decide +kernel
theorem dX12_about_124 : decode cX12_about 124 = .ok (.iaload, 1) := by decide +kernel
theorem dX12_about_125 : decode cX12_about 125 = .ok (.invokevirtual 233, 3) := by decide +kernel
theorem dX12_about_128 : decode cX12_about 128 = .ok (.ireturn, 1) := by decide +kernel
theorem dX12_about_129 : decode cX12_about 129 = .ok (.aload_n 0, 1) := by decide +kernel
theorem dX12_about_130 : decode cX12_about 130 = .ok (.aload_n 0, 1) := by decide +kernel
theorem dX12_about_131 : decode cX12_about 131 = .ok (.invokevirtual 248, 3) := by decide +kernel
theorem dX12_about_134 : decode cX12_about 134 = .ok (.invokevirtual 233, 3) := by decide +kernel
theorem dX12_about_137 : decode cX12_about 137 = .ok (.ireturn, 1) := by decide +kernel
theorem dX12_about_138 : decode cX12_about 138 = .ok (.aload_n 0, 1) := by decide +kernel
theorem dX12_about_139 : decode cX12_about 139 = .ok (.iload_n 2, 1) := by decide +kernel
theorem dX12_about_140 : decode cX12_about 140 = .ok (.invokevirtual 233, 3) := by decide +kernel
theorem dX12_about_143 : decode cX12_about 143 = .ok (.ireturn, 1) := by decide +kernel
theorem dX12_about_144 : decode cX12_about 144 = .ok (.aload_n 0, 1) := by decide +kernel
theorem dX12_about_145 : decode cX12_about 145 = .ok (.aload_n 0, 1) := by decide +kernel
theorem dX12_about_146 : decode cX12_about 146 = .ok (.invokevirtual 251, 3) := by decide +kernel
theorem dX12_about_149 : decode cX12_about 149 = .ok (.invokevirtual 233, 3) := by decide +kernel
theorem dX12_about_152 : decode cX12_about 152 = .ok (.ireturn, 1) := by decide +kernel
theorem dX12_about_153 : decode cX12_about 153 = .ok (.aload_n 0, 1) := by decide +kernel
theorem dX12_about_154 : decode cX12_about 154 = .ok (.aload_n 0, 1) := by decide +kernel
theorem dX12_about_155 : decode cX12_about 155 = .ok (.invokevirtual 254, 3) := by decide +kernel
theorem dX12_about_158 : decode cX12_about 158 = .ok (.invokevirtual 233, 3) := by decide +kernel
theorem dX12_about_161 : decode cX12_about 161 = .ok (.ireturn, 1) := by decide +kernel
theorem dX12_about_162 : decode cX12_about 162 = .ok (.aload_n 0, 1) := by decide +kernel
theorem dX12_about_163 : decode cX12_about 163 = .ok (.aload_n 0, 1) := by decide +kernel
theorem dX12_about_164 : decode cX12_about 164 = .ok (.invokevirtual 260, 3) := by decide +kernel
theorem dX12_about_167 : decode cX12_about 167 = .ok (.invokevirtual 233, 3) := by decide +kernel
theorem dX12_about_170 : decode cX12_about 170 = .ok (.ireturn, 1) := by decide +kernel
theorem dX12_about_171 : decode cX12_about 171 = .ok (.aload_n 0, 1) := by decide +kernel
theorem dX12_about_172 : decode cX12_about 172 = .ok (.aload_n 0, 1) := by decide +kernel
theorem dX12_about_173 : decode cX12_about 173 = .ok (.invokevirtual 257, 3) := by decide +kernel
theorem dX12_about_176 : decode cX12_about 176 = .ok (.invokevirtual 233, 3) := by decide +kernel
theorem dX12_about_179 : decode cX12_about 179 = .ok (.ireturn, 1) := by decide +kernel
theorem dX12_about_180 : decode cX12_about 180 = .ok (.aload_n 0, 1) := by decide +kernel
theorem dX12_about_181 : decode cX12_about 181 = .ok (.aload_n 0, 1) := by decide +kernel
theorem dX12_about_182 : decode cX12_about 182 = .ok (.invokevirtual 266, 3) := by decide +kernel
theorem dX12_about_185 : decode cX12_about 185 = .ok (.ifCond .eq 7, 3) := by decide +kernel
theorem dX12_about_188 : decode cX12_about 188 = .ok (.iconst 1, 1) := by decide +kernel
theorem dX12_about_189 : decode cX12_about 189 = .ok (.goto 4, 3) := by decide +kernel
theorem dX12_about_192 : decode cX12_about 192 = .ok (.iconst 0, 1) := by decide +kernel
theorem dX12_about_193 : decode cX12_about 193 = .ok (.invokevirtual 233, 3) := by decide +kernel
theorem dX12_about_196 : decode cX12_about 196 = .ok (.ireturn, 1) := by decide +kernel
theorem dX12_about_197 : decode cX12_about 197 = .ok (.aload_n 0, 1) := by decide +kernel
theorem dX12_about_198 : decode cX12_about 198 = .ok (.aload_n 0, 1) := by decide +kernel
theorem dX12_about_199 : decode cX12_about 199 = .ok (.getfield 226, 3) := by decide +kernel
theorem dX12_about_202 : decode cX12_about 202 = .ok (.invokevirtual 233, 3) := by decide +kernel
theorem dX12_about_205 : decode cX12_about 205 = .ok (.ireturn, 1) := by decide +kernel
theorem dX12_about_206 : decode cX12_about 206 = .ok (.aload_n 0, 1) := by decide +kernel
theorem dX12_about_207 : decode cX12_about 207 = .ok (.aload_n 0, 1) := by decide +kernel
theorem dX12_about_208 : decode cX12_about 208 = .ok (.iconst 0, 1) := by decide +kernel
theorem dX12_about_209 : decode cX12_about 209 = .ok (.invokevirtual 269, 3) := by decide +kernel
theorem dX12_about_212 : decode cX12_about 212 = .ok (.invokevirtual 233, 3) := by decide +kernel
theorem dX12_about_215 : decode cX12_about 215 = .ok (.ireturn, 1) := by decide +kernel
theorem dX12_about_216 : decode cX12_about 216 = .ok (.aload_n 0, 1) := by decide +kernel
theorem dX12_about_217 : decode cX12_about 217 = .ok (.aload_n 0, 1) := by decide +kernel
theorem dX12_about_218 : decode cX12_about 218 = .ok (.iconst 1, 1) := by decide +kernel
theorem dX12_about_219 : decode cX12_about 219 = .ok (.invokevirtual 269, 3) := by decide +kernel
theorem dX12_about_222 : decode cX12_about 222 = .ok (.invokevirtual 233, 3) := by decide +kernel
theorem dX12_about_225 : decode cX12_about 225 = .ok (.ireturn, 1) := by decide +kernel
theorem dX12_about_226 : decode cX12_about 226 = .ok (.aload_n 0, 1) := by decide +kernel
theorem dX12_about_227 : decode cX12_about 227 = .ok (.iconst 1, 1) := by decide +kernel
theorem dX12_about_228 : decode cX12_about 228 = .ok (.invokevirtual 213, 3) := by decide +kernel
theorem dX12_about_231 : decode cX12_about 231 = .ok (.ireturn, 1) := by decide +kernel
theorem dX12_service_0 : decode cX12_service 0 = .ok (.aload_n 0, 1) := by decide +kernel
theorem dX12_service_1 : decode cX12_service 1 = .ok (.iconst 0, 1) := by decide +kernel
theorem dX12_service_2 : decode cX12_service 2 = .ok (.putfield 73, 3) := by decide +kernel
theorem dX12_service_5 : decode cX12_service 5 = .ok (.aload_n 0, 1) := by decide +kernel
theorem dX12_service_6 : decode cX12_service 6 = .ok (.iload_n 1, 1) := by decide +kernel
theorem dX12_service_7 : decode cX12_service 7 = .ok (.invokevirtual 272, 3) := by decide +kernel
theorem dX12_service_10 : decode cX12_service 10 = .ok (.ifCond .eq 13, 3) := by decide +kernel
theorem dX12_service_13 : decode cX12_service 13 = .ok (.iload_n 2, 1) := by decide +kernel
theorem dX12_service_14 : decode cX12_service 14 = .ok (.iconst 0, 1) := by decide +kernel
theorem dX12_service_15 : decode cX12_service 15 = .ok (.bipush 7, 2) := by decide +kernel
theorem dX12_service_17 : decode cX12_service 17 = .ok (.invokestatic 94, 3) := by decide +kernel
theorem dX12_service_20 : decode cX12_service 20 = .ok (.ifCond .ne 9, 3) := by decide +kernel
theorem dX12_service_23 : decode cX12_service 23 = .ok (.aload_n 0, 1) := by decide +kernel
theorem dX12_service_24 : decode cX12_service 24 = .ok (.iconst 1, 1) := by decide +kernel
theorem dX12_service_25 : decode cX12_service 25 = .ok (.invokevirtual 213, 3) := by decide +kernel
theorem dX12_service_28 : decode cX12_service 28 = .ok (.ireturn, 1) := by decide +kernel
theorem dX12_service_29 : decode cX12_service 29 = .ok (.aload_n 0, 1) := by decide +kernel
theorem dX12_service_30 : decode cX12_service 30 = .ok (.iload_n 2, 1) := by decide +kernel
theorem dX12_service_31 : decode cX12_service 31 = .ok (.bipush 7, 2) := by decide +kernel
theorem dX12_service_33 : decode cX12_service 33 = .ok (.if_icmp .ne 11, 3) := by decide +kernel
theorem dX12_service_36 : decode cX12_service 36 = .ok (.aload_n 0, 1) := by decide +kernel
theorem dX12_service_37 : decode cX12_service 37 = .ok (.iload_n 1, 1) := by decide +kernel
theorem dX12_service_38 : decode cX12_service 38 = .ok (.invokevirtual 245, 3) := by decide +kernel
theorem dX12_service_41 : decode cX12_service 41 = .ok (.goto 9, 3) := by decide +kernel
theorem dX12_service_44 : decode cX12_service 44 = .ok (.aload_n 0, 1) := by decide +kernel
theorem dX12_service_45 : decode cX12_service 45 = .ok (.iload_n 1, 1) := by decide +kernel
theorem dX12_service_46 : decode cX12_service 46 = .ok (.iload_n 2, 1) := by decide +kernel
theorem dX12_service_47 : decode cX12_service 47 = .ok (.invokevirtual 236, 3) := by decide +kernel
theorem dX12_service_50 : decode cX12_service 50 = .ok (.invokevirtual 233, 3) := by decide +kernel
theorem dX12_service_53 : decode cX12_service 53 = .ok (.ireturn, 1) := by decide +kernel
theorem dX12_rule_0 : decode cX12_rule 0 = .ok (.aload_n 0, 1) := by decide +kernel
theorem dX12_rule_1 : decode cX12_rule 1 = .ok (.iconst 0, 1) := by decide +kernel
theorem dX12_rule_2 : decode cX12_rule 2 = .ok (.putfield 73, 3) := by decide +kernel
theorem dX12_rule_5 : decode cX12_rule 5 = .ok (.aload_n 0, 1) := by decide +kernel
theorem dX12_rule_6 : decode cX12_rule 6 = .ok (.getfield 229, 3) := by decide +kernel
theorem dX12_rule_9 : decode cX12_rule 9 = .ok (.ifCond .eq 28, 3) := by decide +kernel
theorem dX12_rule_12 : decode cX12_rule 12 = .ok (.iload_n 1, 1) := by decide +kernel
theorem dX12_rule_13 : decode cX12_rule 13 = .ok (.iconst 0, 1) := by decide +kernel
theorem dX12_rule_14 : decode cX12_rule 14 = .ok (.iconst 3, 1) := by decide +kernel
theorem dX12_rule_15 : decode cX12_rule 15 = .ok (.invokestatic 94, 3) := by decide +kernel
theorem dX12_rule_18 : decode cX12_rule 18 = .ok (.ifCond .eq 19, 3) := by decide +kernel
theorem dX12_rule_21 : decode cX12_rule 21 = .ok (.aload_n 0, 1) := by decide +kernel
theorem dX12_rule_22 : decode cX12_rule 22 = .ok (.aload_n 0, 1) := by decide +kernel
theorem dX12_rule_23 : decode cX12_rule 23 = .ok (.getfield 17, 3) := by decide +kernel
theorem dX12_rule_26 : decode cX12_rule 26 = .ok (.bipush 28, 2) := by decide +kernel
theorem dX12_rule_28 : decode cX12_rule 28 = .ok (.iload_n 1, 1) := by decide +kernel
theorem dX12_rule_29 : decode cX12_rule 29 = .ok (.iadd, 1) := by decide +kernel
theorem dX12_rule_30 : decode cX12_rule 30 = .ok (.iaload, 1) := by decide +kernel
theorem dX12_rule_31 : decode cX12_rule 31 = .ok (.invokevirtual 233, 3) := by decide +kernel
theorem dX12_rule_34 : decode cX12_rule 34 = .ok (.goto 8, 3) := by decide +kernel
theorem dX12_rule_37 : decode cX12_rule 37 = .ok (.aload_n 0, 1) := by decide +kernel
theorem dX12_rule_38 : decode cX12_rule 38 = .ok (.iconst 1, 1) := by decide +kernel
theorem dX12_rule_39 : decode cX12_rule 39 = .ok (.invokevirtual 213, 3) := by decide +kernel
theorem dX12_rule_42 : decode cX12_rule 42 = .ok (.ireturn, 1) := by decide +kernel
theorem dX12_carried_0 : decode cX12_carried 0 = .ok (.aload_n 0, 1) := by decide +kernel
theorem dX12_carried_1 : decode cX12_carried 1 = .ok (.iconst 0, 1) := by decide +kernel
theorem dX12_carried_2 : decode cX12_carried 2 = .ok (.putfield 73, 3) := by decide +kernel
theorem dX12_carried_5 : decode cX12_carried 5 = .ok (.aload_n 0, 1) := by decide +kernel
theorem dX12_carried_6 : decode cX12_carried 6 = .ok (.getfield 229, 3) := by decide +kernel
theorem dX12_carried_9 : decode cX12_carried 9 = .ok (.ifCond .eq 12, 3) := by decide +kernel
theorem dX12_carried_12 : decode cX12_carried 12 = .ok (.iload_n 1, 1) := by decide +kernel
theorem dX12_carried_13 : decode cX12_carried 13 = .ok (.iconst 0, 1) := by decide +kernel
theorem dX12_carried_14 : decode cX12_carried 14 = .ok (.iconst 1, 1) := by decide +kernel
theorem dX12_carried_15 : decode cX12_carried 15 = .ok (.invokestatic 94, 3) := by decide +kernel
theorem dX12_carried_18 : decode cX12_carried 18 = .ok (.ifCond .ne 9, 3) := by decide +kernel
theorem dX12_carried_21 : decode cX12_carried 21 = .ok (.aload_n 0, 1) := by decide +kernel
theorem dX12_carried_22 : decode cX12_carried 22 = .ok (.iconst 1, 1) := by decide +kernel
theorem dX12_carried_23 : decode cX12_carried 23 = .ok (.invokevirtual 213, 3) := by decide +kernel
theorem dX12_carried_26 : decode cX12_carried 26 = .ok (.ireturn, 1) := by decide +kernel
theorem dX12_carried_27 : decode cX12_carried 27 = .ok (.aload_n 0, 1) := by decide +kernel
theorem dX12_carried_28 : decode cX12_carried 28 = .ok (.iload_n 1, 1) := by decide +kernel
theorem dX12_carried_29 : decode cX12_carried 29 = .ok (.ifCond .ne 13, 3) := by decide +kernel
theorem dX12_carried_32 : decode cX12_carried 32 = .ok (.aload_n 0, 1) := by decide +kernel
theorem dX12_carried_33 : decode cX12_carried 33 = .ok (.getfield 17, 3) := by decide +kernel
theorem dX12_carried_36 : decode cX12_carried 36 = .ok (.bipush 33, 2) := by decide +kernel
theorem dX12_carried_38 : decode cX12_carried 38 = .ok (.iaload, 1) := by decide +kernel
theorem dX12_carried_39 : decode cX12_carried 39 = .ok (.goto 12, 3) := by decide +kernel
theorem dX12_carried_42 : decode cX12_carried 42 = .ok (.aload_n 0, 1) := by decide +kernel
theorem dX12_carried_43 : decode cX12_carried 43 = .ok (.invokevirtual 260, 3) := by decide +kernel
theorem dX12_carried_46 : decode cX12_carried 46 = .ok (.aload_n 0, 1) := by decide +kernel
theorem dX12_carried_47 : decode cX12_carried 47 = .ok (.invokevirtual 257, 3) := by decide +kernel
theorem dX12_carried_50 : decode cX12_carried 50 = .ok (.isub, 1) := by decide +kernel
theorem dX12_carried_51 : decode cX12_carried 51 = .ok (.invokevirtual 233, 3) := by decide +kernel
theorem dX12_carried_54 : decode cX12_carried 54 = .ok (.ireturn, 1) := by decide +kernel
theorem dX12_bought_0 : decode cX12_bought 0 = .ok (.aload_n 0, 1) := by decide +kernel
theorem dX12_bought_1 : decode cX12_bought 1 = .ok (.iconst 0, 1) := by decide +kernel
theorem dX12_bought_2 : decode cX12_bought 2 = .ok (.putfield 73, 3) := by decide +kernel
theorem dX12_bought_5 : decode cX12_bought 5 = .ok (.aload_n 0, 1) := by decide +kernel
theorem dX12_bought_6 : decode cX12_bought 6 = .ok (.iload_n 1, 1) := by decide +kernel
theorem dX12_bought_7 : decode cX12_bought 7 = .ok (.invokevirtual 272, 3) := by decide +kernel
theorem dX12_bought_10 : decode cX12_bought 10 = .ok (.ifCond .ne 9, 3) := by decide +kernel
theorem dX12_bought_13 : decode cX12_bought 13 = .ok (.aload_n 0, 1) := by decide +kernel
theorem dX12_bought_14 : decode cX12_bought 14 = .ok (.iconst 1, 1) := by decide +kernel
theorem dX12_bought_15 : decode cX12_bought 15 = .ok (.invokevirtual 213, 3) := by decide +kernel
theorem dX12_bought_18 : decode cX12_bought 18 = .ok (.ireturn, 1) := by decide +kernel
theorem dX12_bought_19 : decode cX12_bought 19 = .ok (.iload_n 2, 1) := by decide +kernel
theorem dX12_bought_20 : decode cX12_bought 20 = .ok (.invokestatic 275, 3) := by decide +kernel
theorem dX12_bought_23 : decode cX12_bought 23 = .ok (.ifCond .eq 16, 3) := by decide +kernel
theorem dX12_bought_26 : decode cX12_bought 26 = .ok (.aload_n 0, 1) := by decide +kernel
theorem dX12_bought_27 : decode cX12_bought 27 = .ok (.aload_n 0, 1) := by decide +kernel
theorem dX12_bought_28 : decode cX12_bought 28 = .ok (.iload_n 1, 1) := by decide +kernel
theorem dX12_bought_29 : decode cX12_bought 29 = .ok (.iload_n 2, 1) := by decide +kernel
theorem dX12_bought_30 : decode cX12_bought 30 = .ok (.invokevirtual 239, 3) := by decide +kernel
theorem dX12_bought_33 : decode cX12_bought 33 = .ok (.invokevirtual 233, 3) := by decide +kernel
theorem dX12_bought_36 : decode cX12_bought 36 = .ok (.goto 8, 3) := by decide +kernel
theorem dX12_bought_39 : decode cX12_bought 39 = .ok (.aload_n 0, 1) := by decide +kernel
theorem dX12_bought_40 : decode cX12_bought 40 = .ok (.iconst 2, 1) := by decide +kernel
theorem dX12_bought_41 : decode cX12_bought 41 = .ok (.invokevirtual 213, 3) := by decide +kernel
theorem dX12_bought_44 : decode cX12_bought 44 = .ok (.ireturn, 1) := by decide +kernel
theorem dX12_profit_0 : decode cX12_profit 0 = .ok (.aload_n 0, 1) := by decide +kernel
theorem dX12_profit_1 : decode cX12_profit 1 = .ok (.iconst 0, 1) := by decide +kernel
theorem dX12_profit_2 : decode cX12_profit 2 = .ok (.putfield 73, 3) := by decide +kernel
theorem dX12_profit_5 : decode cX12_profit 5 = .ok (.aload_n 0, 1) := by decide +kernel
theorem dX12_profit_6 : decode cX12_profit 6 = .ok (.iload_n 1, 1) := by decide +kernel
theorem dX12_profit_7 : decode cX12_profit 7 = .ok (.invokevirtual 272, 3) := by decide +kernel
theorem dX12_profit_10 : decode cX12_profit 10 = .ok (.ifCond .ne 9, 3) := by decide +kernel
theorem dX12_profit_13 : decode cX12_profit 13 = .ok (.aload_n 0, 1) := by decide +kernel
theorem dX12_profit_14 : decode cX12_profit 14 = .ok (.iconst 1, 1) := by decide +kernel
theorem dX12_profit_15 : decode cX12_profit 15 = .ok (.invokevirtual 213, 3) := by decide +kernel
theorem dX12_profit_18 : decode cX12_profit 18 = .ok (.ireturn, 1) := by decide +kernel
theorem dX12_profit_19 : decode cX12_profit 19 = .ok (.iload_n 2, 1) := by decide +kernel
theorem dX12_profit_20 : decode cX12_profit 20 = .ok (.invokestatic 275, 3) := by decide +kernel
theorem dX12_profit_23 : decode cX12_profit 23 = .ok (.ifCond .eq 16, 3) := by decide +kernel
theorem dX12_profit_26 : decode cX12_profit 26 = .ok (.aload_n 0, 1) := by decide +kernel
theorem dX12_profit_27 : decode cX12_profit 27 = .ok (.aload_n 0, 1) := by decide +kernel
theorem dX12_profit_28 : decode cX12_profit 28 = .ok (.iload_n 1, 1) := by decide +kernel
theorem dX12_profit_29 : decode cX12_profit 29 = .ok (.iload_n 2, 1) := by decide +kernel
theorem dX12_profit_30 : decode cX12_profit 30 = .ok (.invokevirtual 242, 3) := by decide +kernel
theorem dX12_profit_33 : decode cX12_profit 33 = .ok (.invokevirtual 233, 3) := by decide +kernel
theorem dX12_profit_36 : decode cX12_profit 36 = .ok (.goto 8, 3) := by decide +kernel
theorem dX12_profit_39 : decode cX12_profit 39 = .ok (.aload_n 0, 1) := by decide +kernel
theorem dX12_profit_40 : decode cX12_profit 40 = .ok (.iconst 2, 1) := by decide +kernel
theorem dX12_profit_41 : decode cX12_profit 41 = .ok (.invokevirtual 213, 3) := by decide +kernel
theorem dX12_profit_44 : decode cX12_profit 44 = .ok (.ireturn, 1) := by decide +kernel
theorem dX12_good_0 : decode cX12_good 0 = .ok (.aload_n 0, 1) := by decide +kernel
theorem dX12_good_1 : decode cX12_good 1 = .ok (.iconst 0, 1) := by decide +kernel
theorem dX12_good_2 : decode cX12_good 2 = .ok (.putfield 73, 3) := by decide +kernel
theorem dX12_good_5 : decode cX12_good 5 = .ok (.aload_n 0, 1) := by decide +kernel
theorem dX12_good_6 : decode cX12_good 6 = .ok (.iload_n 1, 1) := by decide +kernel
theorem dX12_good_7 : decode cX12_good 7 = .ok (.invokevirtual 272, 3) := by decide +kernel
theorem dX12_good_10 : decode cX12_good 10 = .ok (.ifCond .ne 9, 3) := by decide +kernel
theorem dX12_good_13 : decode cX12_good 13 = .ok (.aload_n 0, 1) := by decide +kernel
theorem dX12_good_14 : decode cX12_good 14 = .ok (.iconst 1, 1) := by decide +kernel
theorem dX12_good_15 : decode cX12_good 15 = .ok (.invokevirtual 213, 3) := by decide +kernel
theorem dX12_good_18 : decode cX12_good 18 = .ok (.ireturn, 1) := by decide +kernel
theorem dX12_good_19 : decode cX12_good 19 = .ok (.iload_n 2, 1) := by decide +kernel
theorem dX12_good_20 : decode cX12_good 20 = .ok (.invokestatic 275, 3) := by decide +kernel
theorem dX12_good_23 : decode cX12_good 23 = .ok (.ifCond .eq 16, 3) := by decide +kernel
theorem dX12_good_26 : decode cX12_good 26 = .ok (.aload_n 0, 1) := by decide +kernel
theorem dX12_good_27 : decode cX12_good 27 = .ok (.aload_n 0, 1) := by decide +kernel
theorem dX12_good_28 : decode cX12_good 28 = .ok (.iload_n 1, 1) := by decide +kernel
theorem dX12_good_29 : decode cX12_good 29 = .ok (.iload_n 2, 1) := by decide +kernel
theorem dX12_good_30 : decode cX12_good 30 = .ok (.invokevirtual 263, 3) := by decide +kernel
theorem dX12_good_33 : decode cX12_good 33 = .ok (.invokevirtual 233, 3) := by decide +kernel
theorem dX12_good_36 : decode cX12_good 36 = .ok (.goto 8, 3) := by decide +kernel
theorem dX12_good_39 : decode cX12_good 39 = .ok (.aload_n 0, 1) := by decide +kernel
theorem dX12_good_40 : decode cX12_good 40 = .ok (.iconst 2, 1) := by decide +kernel
theorem dX12_good_41 : decode cX12_good 41 = .ok (.invokevirtual 213, 3) := by decide +kernel
theorem dX12_good_44 : decode cX12_good 44 = .ok (.ireturn, 1) := by decide +kernel
theorem dX12_isKeptBy_0 : decode cX12_isKeptBy 0 = .ok (.aload_n 0, 1) := by decide +kernel
theorem dX12_isKeptBy_1 : decode cX12_isKeptBy 1 = .ok (.invokevirtual 257, 3) := by decide +kernel
theorem dX12_isKeptBy_4 : decode cX12_isKeptBy 4 = .ok (.iload_n 2, 1) := by decide +kernel
theorem dX12_isKeptBy_5 : decode cX12_isKeptBy 5 = .ok (.aload_n 0, 1) := by decide +kernel
theorem dX12_isKeptBy_6 : decode cX12_isKeptBy 6 = .ok (.iload_n 1, 1) := by decide +kernel
theorem dX12_isKeptBy_7 : decode cX12_isKeptBy 7 = .ok (.iconst 1, 1) := by decide +kernel
theorem dX12_isKeptBy_8 : decode cX12_isKeptBy 8 = .ok (.invokevirtual 236, 3) := by decide +kernel
theorem dX12_isKeptBy_11 : decode cX12_isKeptBy 11 = .ok (.isub, 1) := by decide +kernel
theorem dX12_isKeptBy_12 : decode cX12_isKeptBy 12 = .ok (.aload_n 0, 1) := by decide +kernel
theorem dX12_isKeptBy_13 : decode cX12_isKeptBy 13 = .ok (.iload_n 1, 1) := by decide +kernel
theorem dX12_isKeptBy_14 : decode cX12_isKeptBy 14 = .ok (.invokevirtual 245, 3) := by decide +kernel
theorem dX12_isKeptBy_17 : decode cX12_isKeptBy 17 = .ok (.imul, 1) := by decide +kernel
theorem dX12_isKeptBy_18 : decode cX12_isKeptBy 18 = .ok (.iadd, 1) := by decide +kernel
theorem dX12_isKeptBy_19 : decode cX12_isKeptBy 19 = .ok (.istore_n 3, 1) := by decide +kernel
theorem dX12_isKeptBy_20 : decode cX12_isKeptBy 20 = .ok (.iload_n 3, 1) := by decide +kernel
theorem dX12_isKeptBy_21 : decode cX12_isKeptBy 21 = .ok (.aload_n 0, 1) := by decide +kernel
theorem dX12_isKeptBy_22 : decode cX12_isKeptBy 22 = .ok (.invokevirtual 260, 3) := by decide +kernel
theorem dX12_isKeptBy_25 : decode cX12_isKeptBy 25 = .ok (.if_icmp .gt 7, 3) := by decide +kernel
theorem dX12_isKeptBy_28 : decode cX12_isKeptBy 28 = .ok (.iconst 1, 1) := by decide +kernel
theorem dX12_isKeptBy_29 : decode cX12_isKeptBy 29 = .ok (.goto 4, 3) := by decide +kernel
theorem dX12_isKeptBy_32 : decode cX12_isKeptBy 32 = .ok (.iconst 0, 1) := by decide +kernel
theorem dX12_isKeptBy_33 : decode cX12_isKeptBy 33 = .ok (.ireturn, 1) := by decide +kernel
theorem dX12_most_0 : decode cX12_most 0 = .ok (.aload_n 0, 1) := by decide +kernel
theorem dX12_most_1 : decode cX12_most 1 = .ok (.iconst 0, 1) := by decide +kernel
theorem dX12_most_2 : decode cX12_most 2 = .ok (.putfield 73, 3) := by decide +kernel
theorem dX12_most_5 : decode cX12_most 5 = .ok (.aload_n 0, 1) := by decide +kernel
theorem dX12_most_6 : decode cX12_most 6 = .ok (.iload_n 1, 1) := by decide +kernel
theorem dX12_most_7 : decode cX12_most 7 = .ok (.invokevirtual 272, 3) := by decide +kernel
theorem dX12_most_10 : decode cX12_most 10 = .ok (.ifCond .ne 9, 3) := by decide +kernel
theorem dX12_most_13 : decode cX12_most 13 = .ok (.aload_n 0, 1) := by decide +kernel
theorem dX12_most_14 : decode cX12_most 14 = .ok (.iconst 1, 1) := by decide +kernel
theorem dX12_most_15 : decode cX12_most 15 = .ok (.invokevirtual 213, 3) := by decide +kernel
theorem dX12_most_18 : decode cX12_most 18 = .ok (.ireturn, 1) := by decide +kernel
theorem dX12_most_19 : decode cX12_most 19 = .ok (.bipush 20, 2) := by decide +kernel
theorem dX12_most_21 : decode cX12_most 21 = .ok (.istore_n 2, 1) := by decide +kernel
theorem dX12_most_22 : decode cX12_most 22 = .ok (.iload_n 2, 1) := by decide +kernel
theorem dX12_most_23 : decode cX12_most 23 = .ok (.ifCond .lt 18, 3) := by decide +kernel
theorem dX12_most_26 : decode cX12_most 26 = .ok (.aload_n 0, 1) := by decide +kernel
theorem dX12_most_27 : decode cX12_most 27 = .ok (.iload_n 1, 1) := by decide +kernel
theorem dX12_most_28 : decode cX12_most 28 = .ok (.iload_n 2, 1) := by decide +kernel
theorem dX12_most_29 : decode cX12_most 29 = .ok (.invokevirtual 278, 3) := by decide +kernel
theorem dX12_most_32 : decode cX12_most 32 = .ok (.ifCond .ne 9, 3) := by decide +kernel
theorem dX12_most_35 : decode cX12_most 35 = .ok (.iinc 2 (-1), 3) := by decide +kernel
theorem dX12_most_38 : decode cX12_most 38 = .ok (.goto (-16), 3) := by decide +kernel
theorem dX12_most_41 : decode cX12_most 41 = .ok (.aload_n 0, 1) := by decide +kernel
theorem dX12_most_42 : decode cX12_most 42 = .ok (.iload_n 2, 1) := by decide +kernel
theorem dX12_most_43 : decode cX12_most 43 = .ok (.ifCond .ge 8, 3) := by decide +kernel
theorem dX12_most_46 : decode cX12_most 46 = .ok (.bipush (-2), 2) := by decide +kernel
theorem dX12_most_48 : decode cX12_most 48 = .ok (.goto 4, 3) := by decide +kernel
theorem dX12_most_51 : decode cX12_most 51 = .ok (.iload_n 2, 1) := by decide +kernel
theorem dX12_most_52 : decode cX12_most 52 = .ok (.invokevirtual 233, 3) := by decide +kernel
theorem dX12_most_55 : decode cX12_most 55 = .ok (.ireturn, 1) := by decide +kernel
theorem dX12_free_0 : decode cX12_free 0 = .ok (.aload_n 0, 1) := by decide +kernel
theorem dX12_free_1 : decode cX12_free 1 = .ok (.iconst 0, 1) := by decide +kernel
theorem dX12_free_2 : decode cX12_free 2 = .ok (.putfield 73, 3) := by decide +kernel
theorem dX12_free_5 : decode cX12_free 5 = .ok (.aload_n 0, 1) := by decide +kernel
theorem dX12_free_6 : decode cX12_free 6 = .ok (.iload_n 1, 1) := by decide +kernel
theorem dX12_free_7 : decode cX12_free 7 = .ok (.invokevirtual 272, 3) := by decide +kernel
theorem dX12_free_10 : decode cX12_free 10 = .ok (.ifCond .ne 9, 3) := by decide +kernel
theorem dX12_free_13 : decode cX12_free 13 = .ok (.aload_n 0, 1) := by decide +kernel
theorem dX12_free_14 : decode cX12_free 14 = .ok (.iconst 1, 1) := by decide +kernel
theorem dX12_free_15 : decode cX12_free 15 = .ok (.invokevirtual 213, 3) := by decide +kernel
theorem dX12_free_18 : decode cX12_free 18 = .ok (.ireturn, 1) := by decide +kernel
theorem dX12_free_19 : decode cX12_free 19 = .ok (.iconst 0, 1) := by decide +kernel
theorem dX12_free_20 : decode cX12_free 20 = .ok (.istore_n 2, 1) := by decide +kernel
theorem dX12_free_21 : decode cX12_free 21 = .ok (.iconst 1, 1) := by decide +kernel
theorem dX12_free_22 : decode cX12_free 22 = .ok (.istore_n 3, 1) := by decide +kernel
theorem dX12_free_23 : decode cX12_free 23 = .ok (.iload_n 3, 1) := by decide +kernel
theorem dX12_free_24 : decode cX12_free 24 = .ok (.bipush 20, 2) := by decide +kernel
theorem dX12_free_26 : decode cX12_free 26 = .ok (.if_icmp .gt 26, 3) := by decide +kernel
theorem dX12_free_29 : decode cX12_free 29 = .ok (.aload_n 0, 1) := by decide +kernel
theorem dX12_free_30 : decode cX12_free 30 = .ok (.iload_n 1, 1) := by decide +kernel
theorem dX12_free_31 : decode cX12_free 31 = .ok (.iload_n 3, 1) := by decide +kernel
theorem dX12_free_32 : decode cX12_free 32 = .ok (.invokevirtual 242, 3) := by decide +kernel
theorem dX12_free_35 : decode cX12_free 35 = .ok (.aload_n 0, 1) := by decide +kernel
theorem dX12_free_36 : decode cX12_free 36 = .ok (.iload_n 1, 1) := by decide +kernel
theorem dX12_free_37 : decode cX12_free 37 = .ok (.iload_n 2, 1) := by decide +kernel
theorem dX12_free_38 : decode cX12_free 38 = .ok (.invokevirtual 242, 3) := by decide +kernel
theorem dX12_free_41 : decode cX12_free 41 = .ok (.if_icmp .le 5, 3) := by decide +kernel
theorem dX12_free_44 : decode cX12_free 44 = .ok (.iload_n 3, 1) := by decide +kernel
theorem dX12_free_45 : decode cX12_free 45 = .ok (.istore_n 2, 1) := by decide +kernel
theorem dX12_free_46 : decode cX12_free 46 = .ok (.iinc 3 1, 3) := by decide +kernel
theorem dX12_free_49 : decode cX12_free 49 = .ok (.goto (-26), 3) := by decide +kernel
theorem dX12_free_52 : decode cX12_free 52 = .ok (.aload_n 0, 1) := by decide +kernel
theorem dX12_free_53 : decode cX12_free 53 = .ok (.iload_n 2, 1) := by decide +kernel
theorem dX12_free_54 : decode cX12_free 54 = .ok (.invokevirtual 233, 3) := by decide +kernel
theorem dX12_free_57 : decode cX12_free 57 = .ok (.ireturn, 1) := by decide +kernel
theorem dX12_freely_0 : decode cX12_freely 0 = .ok (.aload_n 0, 1) := by decide +kernel
theorem dX12_freely_1 : decode cX12_freely 1 = .ok (.iconst 0, 1) := by decide +kernel
theorem dX12_freely_2 : decode cX12_freely 2 = .ok (.putfield 73, 3) := by decide +kernel
theorem dX12_freely_5 : decode cX12_freely 5 = .ok (.aload_n 0, 1) := by decide +kernel
theorem dX12_freely_6 : decode cX12_freely 6 = .ok (.iload_n 1, 1) := by decide +kernel
theorem dX12_freely_7 : decode cX12_freely 7 = .ok (.invokevirtual 272, 3) := by decide +kernel
theorem dX12_freely_10 : decode cX12_freely 10 = .ok (.ifCond .ne 9, 3) := by decide +kernel
theorem dX12_freely_13 : decode cX12_freely 13 = .ok (.aload_n 0, 1) := by decide +kernel
theorem dX12_freely_14 : decode cX12_freely 14 = .ok (.iconst 1, 1) := by decide +kernel
theorem dX12_freely_15 : decode cX12_freely 15 = .ok (.invokevirtual 213, 3) := by decide +kernel
theorem dX12_freely_18 : decode cX12_freely 18 = .ok (.ireturn, 1) := by decide +kernel
theorem dX12_freely_19 : decode cX12_freely 19 = .ok (.iconst 0, 1) := by decide +kernel
theorem dX12_freely_20 : decode cX12_freely 20 = .ok (.istore_n 2, 1) := by decide +kernel
theorem dX12_freely_21 : decode cX12_freely 21 = .ok (.iconst 0, 1) := by decide +kernel
theorem dX12_freely_22 : decode cX12_freely 22 = .ok (.istore_n 3, 1) := by decide +kernel
theorem dX12_freely_23 : decode cX12_freely 23 = .ok (.iload_n 3, 1) := by decide +kernel
theorem dX12_freely_24 : decode cX12_freely 24 = .ok (.bipush 20, 2) := by decide +kernel
theorem dX12_freely_26 : decode cX12_freely 26 = .ok (.if_icmp .gt 46, 3) := by decide +kernel
theorem dX12_freely_29 : decode cX12_freely 29 = .ok (.iload_n 2, 1) := by decide +kernel
theorem dX12_freely_30 : decode cX12_freely 30 = .ok (.aload_n 0, 1) := by decide +kernel
theorem dX12_freely_31 : decode cX12_freely 31 = .ok (.iload_n 1, 1) := by decide +kernel
theorem dX12_freely_32 : decode cX12_freely 32 = .ok (.iload_n 3, 1) := by decide +kernel
theorem dX12_freely_33 : decode cX12_freely 33 = .ok (.invokevirtual 242, 3) := by decide +kernel
theorem dX12_freely_36 : decode cX12_freely 36 = .ok (.aload_n 0, 1) := by decide +kernel
theorem dX12_freely_37 : decode cX12_freely 37 = .ok (.iload_n 1, 1) := by decide +kernel
theorem dX12_freely_38 : decode cX12_freely 38 = .ok (.aload_n 0, 1) := by decide +kernel
theorem dX12_freely_39 : decode cX12_freely 39 = .ok (.iload_n 1, 1) := by decide +kernel
theorem dX12_freely_40 : decode cX12_freely 40 = .ok (.iconst 1, 1) := by decide +kernel
theorem dX12_freely_41 : decode cX12_freely 41 = .ok (.invokevirtual 236, 3) := by decide +kernel
theorem dX12_freely_44 : decode cX12_freely 44 = .ok (.invokevirtual 242, 3) := by decide +kernel
theorem dX12_freely_47 : decode cX12_freely 47 = .ok (.if_icmp .lt 16, 3) := by decide +kernel
theorem dX12_freely_50 : decode cX12_freely 50 = .ok (.aload_n 0, 1) := by decide +kernel
theorem dX12_freely_51 : decode cX12_freely 51 = .ok (.iload_n 1, 1) := by decide +kernel
theorem dX12_freely_52 : decode cX12_freely 52 = .ok (.iload_n 3, 1) := by decide +kernel
theorem dX12_freely_53 : decode cX12_freely 53 = .ok (.invokevirtual 278, 3) := by decide +kernel
theorem dX12_freely_56 : decode cX12_freely 56 = .ok (.ifCond .eq 7, 3) := by decide +kernel
theorem dX12_freely_59 : decode cX12_freely 59 = .ok (.iconst 1, 1) := by decide +kernel
theorem dX12_freely_60 : decode cX12_freely 60 = .ok (.goto 4, 3) := by decide +kernel
theorem dX12_freely_63 : decode cX12_freely 63 = .ok (.iconst 0, 1) := by decide +kernel
theorem dX12_freely_64 : decode cX12_freely 64 = .ok (.iadd, 1) := by decide +kernel
theorem dX12_freely_65 : decode cX12_freely 65 = .ok (.istore_n 2, 1) := by decide +kernel
theorem dX12_freely_66 : decode cX12_freely 66 = .ok (.iinc 3 1, 3) := by decide +kernel
theorem dX12_freely_69 : decode cX12_freely 69 = .ok (.goto (-46), 3) := by decide +kernel
theorem dX12_freely_72 : decode cX12_freely 72 = .ok (.aload_n 0, 1) := by decide +kernel
theorem dX12_freely_73 : decode cX12_freely 73 = .ok (.iload_n 2, 1) := by decide +kernel
theorem dX12_freely_74 : decode cX12_freely 74 = .ok (.invokevirtual 233, 3) := by decide +kernel
theorem dX12_freely_77 : decode cX12_freely 77 = .ok (.ireturn, 1) := by decide +kernel
theorem dX12_laysWorth_0 : decode cX12_laysWorth 0 = .ok (.aload_n 0, 1) := by decide +kernel
theorem dX12_laysWorth_1 : decode cX12_laysWorth 1 = .ok (.getfield 52, 3) := by decide +kernel
theorem dX12_laysWorth_4 : decode cX12_laysWorth 4 = .ok (.aload_n 0, 1) := by decide +kernel
theorem dX12_laysWorth_5 : decode cX12_laysWorth 5 = .ok (.getfield 220, 3) := by decide +kernel
theorem dX12_laysWorth_8 : decode cX12_laysWorth 8 = .ok (.iconst 0, 1) := by decide +kernel
theorem dX12_laysWorth_9 : decode cX12_laysWorth 9 = .ok (.iastore, 1) := by decide +kernel
theorem dX12_laysWorth_10 : decode cX12_laysWorth 10 = .ok (.aload_n 0, 1) := by decide +kernel
theorem dX12_laysWorth_11 : decode cX12_laysWorth 11 = .ok (.getfield 220, 3) := by decide +kernel
theorem dX12_laysWorth_14 : decode cX12_laysWorth 14 = .ok (.iconst 1, 1) := by decide +kernel
theorem dX12_laysWorth_15 : decode cX12_laysWorth 15 = .ok (.isub, 1) := by decide +kernel
theorem dX12_laysWorth_16 : decode cX12_laysWorth 16 = .ok (.istore_n 2, 1) := by decide +kernel
theorem dX12_laysWorth_17 : decode cX12_laysWorth 17 = .ok (.iload_n 2, 1) := by decide +kernel
theorem dX12_laysWorth_18 : decode cX12_laysWorth 18 = .ok (.ifCond .lt 106, 3) := by decide +kernel
theorem dX12_laysWorth_21 : decode cX12_laysWorth 21 = .ok (.aload_n 0, 1) := by decide +kernel
theorem dX12_laysWorth_22 : decode cX12_laysWorth 22 = .ok (.getfield 55, 3) := by decide +kernel
theorem dX12_laysWorth_25 : decode cX12_laysWorth 25 = .ok (.iload_n 2, 1) := by decide +kernel
theorem dX12_laysWorth_26 : decode cX12_laysWorth 26 = .ok (.aload_n 0, 1) := by decide +kernel
theorem dX12_laysWorth_27 : decode cX12_laysWorth 27 = .ok (.iload_n 2, 1) := by decide +kernel
theorem dX12_laysWorth_28 : decode cX12_laysWorth 28 = .ok (.invokevirtual 245, 3) := by decide +kernel
theorem dX12_laysWorth_31 : decode cX12_laysWorth 31 = .ok (.iastore, 1) := by decide +kernel
theorem dX12_laysWorth_32 : decode cX12_laysWorth 32 = .ok (.ldc_w 282, 3) := by decide +kernel
theorem dX12_laysWorth_35 : decode cX12_laysWorth 35 = .ok (.istore_n 3, 1) := by decide +kernel
theorem dX12_laysWorth_36 : decode cX12_laysWorth 36 = .ok (.iconst 0, 1) := by decide +kernel
theorem dX12_laysWorth_37 : decode cX12_laysWorth 37 = .ok (.istore 4, 2) := by decide +kernel
theorem dX12_laysWorth_39 : decode cX12_laysWorth 39 = .ok (.iload 4, 2) := by decide +kernel
theorem dX12_laysWorth_41 : decode cX12_laysWorth 41 = .ok (.bipush 20, 2) := by decide +kernel
theorem dX12_laysWorth_43 : decode cX12_laysWorth 43 = .ok (.if_icmp .gt 59, 3) := by decide +kernel
theorem dX12_laysWorth_46 : decode cX12_laysWorth 46 = .ok (.iload_n 1, 1) := by decide +kernel
theorem dX12_laysWorth_47 : decode cX12_laysWorth 47 = .ok (.ifCond .eq 13, 3) := by decide +kernel
theorem dX12_laysWorth_50 : decode cX12_laysWorth 50 = .ok (.aload_n 0, 1) := by decide +kernel
theorem dX12_laysWorth_51 : decode cX12_laysWorth 51 = .ok (.iload_n 2, 1) := by decide +kernel
theorem dX12_laysWorth_52 : decode cX12_laysWorth 52 = .ok (.iload 4, 2) := by decide +kernel
theorem dX12_laysWorth_54 : decode cX12_laysWorth 54 = .ok (.invokevirtual 263, 3) := by decide +kernel
theorem dX12_laysWorth_57 : decode cX12_laysWorth 57 = .ok (.goto 10, 3) := by decide +kernel
theorem dX12_laysWorth_60 : decode cX12_laysWorth 60 = .ok (.aload_n 0, 1) := by decide +kernel
theorem dX12_laysWorth_61 : decode cX12_laysWorth 61 = .ok (.iload_n 2, 1) := by decide +kernel
theorem dX12_laysWorth_62 : decode cX12_laysWorth 62 = .ok (.iload 4, 2) := by decide +kernel
theorem dX12_laysWorth_64 : decode cX12_laysWorth 64 = .ok (.invokevirtual 242, 3) := by decide +kernel
theorem dX12_laysWorth_67 : decode cX12_laysWorth 67 = .ok (.istore 5, 2) := by decide +kernel
theorem dX12_laysWorth_69 : decode cX12_laysWorth 69 = .ok (.aload_n 0, 1) := by decide +kernel
theorem dX12_laysWorth_70 : decode cX12_laysWorth 70 = .ok (.getfield 49, 3) := by decide +kernel
theorem dX12_laysWorth_73 : decode cX12_laysWorth 73 = .ok (.bipush 21, 2) := by decide +kernel
theorem dX12_laysWorth_75 : decode cX12_laysWorth 75 = .ok (.iload_n 2, 1) := by decide +kernel
theorem dX12_laysWorth_76 : decode cX12_laysWorth 76 = .ok (.imul, 1) := by decide +kernel
theorem dX12_laysWorth_77 : decode cX12_laysWorth 77 = .ok (.iload 4, 2) := by decide +kernel
theorem dX12_laysWorth_79 : decode cX12_laysWorth 79 = .ok (.iadd, 1) := by decide +kernel
theorem dX12_laysWorth_80 : decode cX12_laysWorth 80 = .ok (.iload 5, 2) := by decide +kernel
theorem dX12_laysWorth_82 : decode cX12_laysWorth 82 = .ok (.iastore, 1) := by decide +kernel
theorem dX12_laysWorth_83 : decode cX12_laysWorth 83 = .ok (.iload 5, 2) := by decide +kernel
theorem dX12_laysWorth_85 : decode cX12_laysWorth 85 = .ok (.iload_n 3, 1) := by decide +kernel
theorem dX12_laysWorth_86 : decode cX12_laysWorth 86 = .ok (.if_icmp .le 8, 3) := by decide +kernel
theorem dX12_laysWorth_89 : decode cX12_laysWorth 89 = .ok (.iload 5, 2) := by decide +kernel
theorem dX12_laysWorth_91 : decode cX12_laysWorth 91 = .ok (.goto 4, 3) := by decide +kernel
theorem dX12_laysWorth_94 : decode cX12_laysWorth 94 = .ok (.iload_n 3, 1) := by decide +kernel
theorem dX12_laysWorth_95 : decode cX12_laysWorth 95 = .ok (.istore_n 3, 1) := by decide +kernel
theorem dX12_laysWorth_96 : decode cX12_laysWorth 96 = .ok (.iinc 4 1, 3) := by decide +kernel
theorem dX12_laysWorth_99 : decode cX12_laysWorth 99 = .ok (.goto (-60), 3) := by decide +kernel
theorem dX12_laysWorth_102 : decode cX12_laysWorth 102 = .ok (.aload_n 0, 1) := by decide +kernel
theorem dX12_laysWorth_103 : decode cX12_laysWorth 103 = .ok (.getfield 52, 3) := by decide +kernel
theorem dX12_laysWorth_106 : decode cX12_laysWorth 106 = .ok (.iload_n 2, 1) := by decide +kernel
theorem dX12_laysWorth_107 : decode cX12_laysWorth 107 = .ok (.aload_n 0, 1) := by decide +kernel
theorem dX12_laysWorth_108 : decode cX12_laysWorth 108 = .ok (.getfield 52, 3) := by decide +kernel
theorem dX12_laysWorth_111 : decode cX12_laysWorth 111 = .ok (.iload_n 2, 1) := by decide +kernel
theorem dX12_laysWorth_112 : decode cX12_laysWorth 112 = .ok (.iconst 1, 1) := by decide +kernel
theorem dX12_laysWorth_113 : decode cX12_laysWorth 113 = .ok (.iadd, 1) := by decide +kernel
theorem dX12_laysWorth_114 : decode cX12_laysWorth 114 = .ok (.iaload, 1) := by decide +kernel
theorem dX12_laysWorth_115 : decode cX12_laysWorth 115 = .ok (.iload_n 3, 1) := by decide +kernel
theorem dX12_laysWorth_116 : decode cX12_laysWorth 116 = .ok (.iadd, 1) := by decide +kernel
theorem dX12_laysWorth_117 : decode cX12_laysWorth 117 = .ok (.iastore, 1) := by decide +kernel
theorem dX12_laysWorth_118 : decode cX12_laysWorth 118 = .ok (.iinc 2 (-1), 3) := by decide +kernel
theorem dX12_laysWorth_121 : decode cX12_laysWorth 121 = .ok (.goto (-104), 3) := by decide +kernel
theorem dX12_laysWorth_124 : decode cX12_laysWorth 124 = .ok (.return_, 1) := by decide +kernel
theorem dX12_burden_0 : decode cX12_burden 0 = .ok (.iconst 0, 1) := by decide +kernel
theorem dX12_burden_1 : decode cX12_burden 1 = .ok (.istore_n 3, 1) := by decide +kernel
theorem dX12_burden_2 : decode cX12_burden 2 = .ok (.iconst 0, 1) := by decide +kernel
theorem dX12_burden_3 : decode cX12_burden 3 = .ok (.istore 4, 2) := by decide +kernel
theorem dX12_burden_5 : decode cX12_burden 5 = .ok (.iload 4, 2) := by decide +kernel
theorem dX12_burden_7 : decode cX12_burden 7 = .ok (.aload_n 0, 1) := by decide +kernel
theorem dX12_burden_8 : decode cX12_burden 8 = .ok (.getfield 220, 3) := by decide +kernel
theorem dX12_burden_11 : decode cX12_burden 11 = .ok (.if_icmp .ge 31, 3) := by decide +kernel
theorem dX12_burden_14 : decode cX12_burden 14 = .ok (.iload_n 3, 1) := by decide +kernel
theorem dX12_burden_15 : decode cX12_burden 15 = .ok (.aload_n 0, 1) := by decide +kernel
theorem dX12_burden_16 : decode cX12_burden 16 = .ok (.getfield 43, 3) := by decide +kernel
theorem dX12_burden_19 : decode cX12_burden 19 = .ok (.iconst 4, 1) := by decide +kernel
theorem dX12_burden_20 : decode cX12_burden 20 = .ok (.iload_n 1, 1) := by decide +kernel
theorem dX12_burden_21 : decode cX12_burden 21 = .ok (.imul, 1) := by decide +kernel
theorem dX12_burden_22 : decode cX12_burden 22 = .ok (.iload 4, 2) := by decide +kernel
theorem dX12_burden_24 : decode cX12_burden 24 = .ok (.iadd, 1) := by decide +kernel
theorem dX12_burden_25 : decode cX12_burden 25 = .ok (.iaload, 1) := by decide +kernel
theorem dX12_burden_26 : decode cX12_burden 26 = .ok (.aload_n 0, 1) := by decide +kernel
theorem dX12_burden_27 : decode cX12_burden 27 = .ok (.iload 4, 2) := by decide +kernel
theorem dX12_burden_29 : decode cX12_burden 29 = .ok (.iload_n 2, 1) := by decide +kernel
theorem dX12_burden_30 : decode cX12_burden 30 = .ok (.invokevirtual 236, 3) := by decide +kernel
theorem dX12_burden_33 : decode cX12_burden 33 = .ok (.imul, 1) := by decide +kernel
theorem dX12_burden_34 : decode cX12_burden 34 = .ok (.iadd, 1) := by decide +kernel
theorem dX12_burden_35 : decode cX12_burden 35 = .ok (.istore_n 3, 1) := by decide +kernel
theorem dX12_burden_36 : decode cX12_burden 36 = .ok (.iinc 4 1, 3) := by decide +kernel
theorem dX12_burden_39 : decode cX12_burden 39 = .ok (.goto (-34), 3) := by decide +kernel
theorem dX12_burden_42 : decode cX12_burden 42 = .ok (.iload_n 3, 1) := by decide +kernel
theorem dX12_burden_43 : decode cX12_burden 43 = .ok (.ireturn, 1) := by decide +kernel
theorem dX12_bears_0 : decode cX12_bears 0 = .ok (.iconst 1, 1) := by decide +kernel
theorem dX12_bears_1 : decode cX12_bears 1 = .ok (.istore_n 3, 1) := by decide +kernel
theorem dX12_bears_2 : decode cX12_bears 2 = .ok (.iconst 0, 1) := by decide +kernel
theorem dX12_bears_3 : decode cX12_bears 3 = .ok (.istore 4, 2) := by decide +kernel
theorem dX12_bears_5 : decode cX12_bears 5 = .ok (.iload 4, 2) := by decide +kernel
theorem dX12_bears_7 : decode cX12_bears 7 = .ok (.aload_n 0, 1) := by decide +kernel
theorem dX12_bears_8 : decode cX12_bears 8 = .ok (.getfield 223, 3) := by decide +kernel
theorem dX12_bears_11 : decode cX12_bears 11 = .ok (.if_icmp .ge 52, 3) := by decide +kernel
theorem dX12_bears_14 : decode cX12_bears 14 = .ok (.aload_n 0, 1) := by decide +kernel
theorem dX12_bears_15 : decode cX12_bears 15 = .ok (.getfield 67, 3) := by decide +kernel
theorem dX12_bears_18 : decode cX12_bears 18 = .ok (.iload 4, 2) := by decide +kernel
theorem dX12_bears_20 : decode cX12_bears 20 = .ok (.dup2, 1) := by decide +kernel
theorem dX12_bears_21 : decode cX12_bears 21 = .ok (.iaload, 1) := by decide +kernel
theorem dX12_bears_22 : decode cX12_bears 22 = .ok (.aload_n 0, 1) := by decide +kernel
theorem dX12_bears_23 : decode cX12_bears 23 = .ok (.getfield 43, 3) := by decide +kernel
theorem dX12_bears_26 : decode cX12_bears 26 = .ok (.iconst 4, 1) := by decide +kernel
theorem dX12_bears_27 : decode cX12_bears 27 = .ok (.iload 4, 2) := by decide +kernel
theorem dX12_bears_29 : decode cX12_bears 29 = .ok (.imul, 1) := by decide +kernel
theorem dX12_bears_30 : decode cX12_bears 30 = .ok (.iload_n 1, 1) := by decide +kernel
theorem dX12_bears_31 : decode cX12_bears 31 = .ok (.iadd, 1) := by decide +kernel
theorem dX12_bears_32 : decode cX12_bears 32 = .ok (.iaload, 1) := by decide +kernel
theorem dX12_bears_33 : decode cX12_bears 33 = .ok (.iload_n 2, 1) := by decide +kernel
theorem dX12_bears_34 : decode cX12_bears 34 = .ok (.imul, 1) := by decide +kernel
theorem dX12_bears_35 : decode cX12_bears 35 = .ok (.isub, 1) := by decide +kernel
theorem dX12_bears_36 : decode cX12_bears 36 = .ok (.iastore, 1) := by decide +kernel
theorem dX12_bears_37 : decode cX12_bears 37 = .ok (.iload_n 3, 1) := by decide +kernel
theorem dX12_bears_38 : decode cX12_bears 38 = .ok (.ifCond .eq 17, 3) := by decide +kernel
theorem dX12_bears_41 : decode cX12_bears 41 = .ok (.aload_n 0, 1) := by decide +kernel
theorem dX12_bears_42 : decode cX12_bears 42 = .ok (.getfield 67, 3) := by decide +kernel
theorem dX12_bears_45 : decode cX12_bears 45 = .ok (.iload 4, 2) := by decide +kernel
theorem dX12_bears_47 : decode cX12_bears 47 = .ok (.iaload, 1) := by decide +kernel
theorem dX12_bears_48 : decode cX12_bears 48 = .ok (.ifCond .lt 7, 3) := by decide +kernel
theorem dX12_bears_51 : decode cX12_bears 51 = .ok (.iconst 1, 1) := by decide +kernel
theorem dX12_bears_52 : decode cX12_bears 52 = .ok (.goto 4, 3) := by decide +kernel
theorem dX12_bears_55 : decode cX12_bears 55 = .ok (.iconst 0, 1) := by decide +kernel
theorem dX12_bears_56 : decode cX12_bears 56 = .ok (.istore_n 3, 1) := by decide +kernel
theorem dX12_bears_57 : decode cX12_bears 57 = .ok (.iinc 4 1, 3) := by decide +kernel
theorem dX12_bears_60 : decode cX12_bears 60 = .ok (.goto (-55), 3) := by decide +kernel
theorem dX12_bears_63 : decode cX12_bears 63 = .ok (.iload_n 3, 1) := by decide +kernel
theorem dX12_bears_64 : decode cX12_bears 64 = .ok (.ifCond .ne 10, 3) := by decide +kernel
theorem dX12_bears_67 : decode cX12_bears 67 = .ok (.aload_n 0, 1) := by decide +kernel
theorem dX12_bears_68 : decode cX12_bears 68 = .ok (.getfield 283, 3) := by decide +kernel
theorem dX12_bears_71 : decode cX12_bears 71 = .ok (.ifCond .ne 7, 3) := by decide +kernel
theorem dX12_bears_74 : decode cX12_bears 74 = .ok (.iconst 1, 1) := by decide +kernel
theorem dX12_bears_75 : decode cX12_bears 75 = .ok (.goto 4, 3) := by decide +kernel
theorem dX12_bears_78 : decode cX12_bears 78 = .ok (.iconst 0, 1) := by decide +kernel
theorem dX12_bears_79 : decode cX12_bears 79 = .ok (.ireturn, 1) := by decide +kernel
theorem dX12_isNear_0 : decode cX12_isNear 0 = .ok (.aload_n 0, 1) := by decide +kernel
theorem dX12_isNear_1 : decode cX12_isNear 1 = .ok (.getfield 64, 3) := by decide +kernel
theorem dX12_isNear_4 : decode cX12_isNear 4 = .ok (.iconst (-1), 1) := by decide +kernel
theorem dX12_isNear_5 : decode cX12_isNear 5 = .ok (.if_icmp .eq 33, 3) := by decide +kernel
theorem dX12_isNear_8 : decode cX12_isNear 8 = .ok (.iload_n 2, 1) := by decide +kernel
theorem dX12_isNear_9 : decode cX12_isNear 9 = .ok (.aload_n 0, 1) := by decide +kernel
theorem dX12_isNear_10 : decode cX12_isNear 10 = .ok (.iload_n 1, 1) := by decide +kernel
theorem dX12_isNear_11 : decode cX12_isNear 11 = .ok (.iconst 0, 1) := by decide +kernel
theorem dX12_isNear_12 : decode cX12_isNear 12 = .ok (.invokevirtual 236, 3) := by decide +kernel
theorem dX12_isNear_15 : decode cX12_isNear 15 = .ok (.isub, 1) := by decide +kernel
theorem dX12_isNear_16 : decode cX12_isNear 16 = .ok (.aload_n 0, 1) := by decide +kernel
theorem dX12_isNear_17 : decode cX12_isNear 17 = .ok (.getfield 64, 3) := by decide +kernel
theorem dX12_isNear_20 : decode cX12_isNear 20 = .ok (.if_icmp .gt 22, 3) := by decide +kernel
theorem dX12_isNear_23 : decode cX12_isNear 23 = .ok (.aload_n 0, 1) := by decide +kernel
theorem dX12_isNear_24 : decode cX12_isNear 24 = .ok (.iload_n 1, 1) := by decide +kernel
theorem dX12_isNear_25 : decode cX12_isNear 25 = .ok (.iconst 0, 1) := by decide +kernel
theorem dX12_isNear_26 : decode cX12_isNear 26 = .ok (.invokevirtual 236, 3) := by decide +kernel
theorem dX12_isNear_29 : decode cX12_isNear 29 = .ok (.iload_n 2, 1) := by decide +kernel
theorem dX12_isNear_30 : decode cX12_isNear 30 = .ok (.isub, 1) := by decide +kernel
theorem dX12_isNear_31 : decode cX12_isNear 31 = .ok (.aload_n 0, 1) := by decide +kernel
theorem dX12_isNear_32 : decode cX12_isNear 32 = .ok (.getfield 64, 3) := by decide +kernel
theorem dX12_isNear_35 : decode cX12_isNear 35 = .ok (.if_icmp .gt 7, 3) := by decide +kernel
theorem dX12_isNear_38 : decode cX12_isNear 38 = .ok (.iconst 1, 1) := by decide +kernel
theorem dX12_isNear_39 : decode cX12_isNear 39 = .ok (.goto 4, 3) := by decide +kernel
theorem dX12_isNear_42 : decode cX12_isNear 42 = .ok (.iconst 0, 1) := by decide +kernel
theorem dX12_isNear_43 : decode cX12_isNear 43 = .ok (.ireturn, 1) := by decide +kernel
theorem dX12_tries_0 : decode cX12_tries 0 = .ok (.iload_n 3, 1) := by decide +kernel
theorem dX12_tries_1 : decode cX12_tries 1 = .ok (.aload_n 0, 1) := by decide +kernel
theorem dX12_tries_2 : decode cX12_tries 2 = .ok (.getfield 52, 3) := by decide +kernel
theorem dX12_tries_5 : decode cX12_tries 5 = .ok (.iload_n 1, 1) := by decide +kernel
theorem dX12_tries_6 : decode cX12_tries 6 = .ok (.iaload, 1) := by decide +kernel
theorem dX12_tries_7 : decode cX12_tries 7 = .ok (.iadd, 1) := by decide +kernel
theorem dX12_tries_8 : decode cX12_tries 8 = .ok (.aload_n 0, 1) := by decide +kernel
theorem dX12_tries_9 : decode cX12_tries 9 = .ok (.getfield 286, 3) := by decide +kernel
theorem dX12_tries_12 : decode cX12_tries 12 = .ok (.if_icmp .gt 4, 3) := by decide +kernel
theorem dX12_tries_15 : decode cX12_tries 15 = .ok (.return_, 1) := by decide +kernel
theorem dX12_tries_16 : decode cX12_tries 16 = .ok (.iload_n 1, 1) := by decide +kernel
theorem dX12_tries_17 : decode cX12_tries 17 = .ok (.aload_n 0, 1) := by decide +kernel
theorem dX12_tries_18 : decode cX12_tries 18 = .ok (.getfield 220, 3) := by decide +kernel
theorem dX12_tries_21 : decode cX12_tries 21 = .ok (.if_icmp .ne 41, 3) := by decide +kernel
theorem dX12_tries_24 : decode cX12_tries 24 = .ok (.aload_n 0, 1) := by decide +kernel
theorem dX12_tries_25 : decode cX12_tries 25 = .ok (.iload_n 3, 1) := by decide +kernel
theorem dX12_tries_26 : decode cX12_tries 26 = .ok (.putfield 286, 3) := by decide +kernel
theorem dX12_tries_29 : decode cX12_tries 29 = .ok (.iconst 0, 1) := by decide +kernel
theorem dX12_tries_30 : decode cX12_tries 30 = .ok (.istore 4, 2) := by decide +kernel
theorem dX12_tries_32 : decode cX12_tries 32 = .ok (.iload 4, 2) := by decide +kernel
theorem dX12_tries_34 : decode cX12_tries 34 = .ok (.aload_n 0, 1) := by decide +kernel
theorem dX12_tries_35 : decode cX12_tries 35 = .ok (.getfield 220, 3) := by decide +kernel
theorem dX12_tries_38 : decode cX12_tries 38 = .ok (.if_icmp .ge 23, 3) := by decide +kernel
theorem dX12_tries_41 : decode cX12_tries 41 = .ok (.aload_n 0, 1) := by decide +kernel
theorem dX12_tries_42 : decode cX12_tries 42 = .ok (.getfield 61, 3) := by decide +kernel
theorem dX12_tries_45 : decode cX12_tries 45 = .ok (.iload 4, 2) := by decide +kernel
theorem dX12_tries_47 : decode cX12_tries 47 = .ok (.aload_n 0, 1) := by decide +kernel
theorem dX12_tries_48 : decode cX12_tries 48 = .ok (.getfield 58, 3) := by decide +kernel
theorem dX12_tries_51 : decode cX12_tries 51 = .ok (.iload 4, 2) := by decide +kernel
theorem dX12_tries_53 : decode cX12_tries 53 = .ok (.iaload, 1) := by decide +kernel
theorem dX12_tries_54 : decode cX12_tries 54 = .ok (.iastore, 1) := by decide +kernel
theorem dX12_tries_55 : decode cX12_tries 55 = .ok (.iinc 4 1, 3) := by decide +kernel
theorem dX12_tries_58 : decode cX12_tries 58 = .ok (.goto (-26), 3) := by decide +kernel
theorem dX12_tries_61 : decode cX12_tries 61 = .ok (.return_, 1) := by decide +kernel
theorem dX12_tries_62 : decode cX12_tries 62 = .ok (.iconst 0, 1) := by decide +kernel
theorem dX12_tries_63 : decode cX12_tries 63 = .ok (.istore 4, 2) := by decide +kernel
theorem dX12_tries_65 : decode cX12_tries 65 = .ok (.iload 4, 2) := by decide +kernel
theorem dX12_tries_67 : decode cX12_tries 67 = .ok (.bipush 20, 2) := by decide +kernel
theorem dX12_tries_69 : decode cX12_tries 69 = .ok (.if_icmp .gt 95, 3) := by decide +kernel
theorem dX12_tries_72 : decode cX12_tries 72 = .ok (.iload 4, 2) := by decide +kernel
theorem dX12_tries_74 : decode cX12_tries 74 = .ok (.aload_n 0, 1) := by decide +kernel
theorem dX12_tries_75 : decode cX12_tries 75 = .ok (.getfield 55, 3) := by decide +kernel
theorem dX12_tries_78 : decode cX12_tries 78 = .ok (.iload_n 1, 1) := by decide +kernel
theorem dX12_tries_79 : decode cX12_tries 79 = .ok (.iaload, 1) := by decide +kernel
theorem dX12_tries_80 : decode cX12_tries 80 = .ok (.imul, 1) := by decide +kernel
theorem dX12_tries_81 : decode cX12_tries 81 = .ok (.iload_n 2, 1) := by decide +kernel
theorem dX12_tries_82 : decode cX12_tries 82 = .ok (.if_icmp .gt 82, 3) := by decide +kernel
theorem dX12_tries_85 : decode cX12_tries 85 = .ok (.aload_n 0, 1) := by decide +kernel
theorem dX12_tries_86 : decode cX12_tries 86 = .ok (.iload_n 1, 1) := by decide +kernel
theorem dX12_tries_87 : decode cX12_tries 87 = .ok (.iload 4, 2) := by decide +kernel
theorem dX12_tries_89 : decode cX12_tries 89 = .ok (.invokevirtual 289, 3) := by decide +kernel
theorem dX12_tries_92 : decode cX12_tries 92 = .ok (.ifCond .ne 6, 3) := by decide +kernel
theorem dX12_tries_95 : decode cX12_tries 95 = .ok (.goto 63, 3) := by decide +kernel
theorem dX12_tries_98 : decode cX12_tries 98 = .ok (.aload_n 0, 1) := by decide +kernel
theorem dX12_tries_99 : decode cX12_tries 99 = .ok (.getfield 58, 3) := by decide +kernel
theorem dX12_tries_102 : decode cX12_tries 102 = .ok (.iload_n 1, 1) := by decide +kernel
theorem dX12_tries_103 : decode cX12_tries 103 = .ok (.iload 4, 2) := by decide +kernel
theorem dX12_tries_105 : decode cX12_tries 105 = .ok (.iastore, 1) := by decide +kernel
theorem dX12_tries_106 : decode cX12_tries 106 = .ok (.aload_n 0, 1) := by decide +kernel
theorem dX12_tries_107 : decode cX12_tries 107 = .ok (.iload_n 1, 1) := by decide +kernel
theorem dX12_tries_108 : decode cX12_tries 108 = .ok (.iload 4, 2) := by decide +kernel
theorem dX12_tries_110 : decode cX12_tries 110 = .ok (.invokevirtual 292, 3) := by decide +kernel
theorem dX12_tries_113 : decode cX12_tries 113 = .ok (.ifCond .eq 35, 3) := by decide +kernel
theorem dX12_tries_116 : decode cX12_tries 116 = .ok (.aload_n 0, 1) := by decide +kernel
theorem dX12_tries_117 : decode cX12_tries 117 = .ok (.iload_n 1, 1) := by decide +kernel
theorem dX12_tries_118 : decode cX12_tries 118 = .ok (.iconst 1, 1) := by decide +kernel
theorem dX12_tries_119 : decode cX12_tries 119 = .ok (.iadd, 1) := by decide +kernel
theorem dX12_tries_120 : decode cX12_tries 120 = .ok (.iload_n 2, 1) := by decide +kernel
theorem dX12_tries_121 : decode cX12_tries 121 = .ok (.iload 4, 2) := by decide +kernel
theorem dX12_tries_123 : decode cX12_tries 123 = .ok (.aload_n 0, 1) := by decide +kernel
theorem dX12_tries_124 : decode cX12_tries 124 = .ok (.getfield 55, 3) := by decide +kernel
theorem dX12_tries_127 : decode cX12_tries 127 = .ok (.iload_n 1, 1) := by decide +kernel
theorem dX12_tries_128 : decode cX12_tries 128 = .ok (.iaload, 1) := by decide +kernel
theorem dX12_tries_129 : decode cX12_tries 129 = .ok (.imul, 1) := by decide +kernel
theorem dX12_tries_130 : decode cX12_tries 130 = .ok (.isub, 1) := by decide +kernel
theorem dX12_tries_131 : decode cX12_tries 131 = .ok (.iload_n 3, 1) := by decide +kernel
theorem dX12_tries_132 : decode cX12_tries 132 = .ok (.aload_n 0, 1) := by decide +kernel
theorem dX12_tries_133 : decode cX12_tries 133 = .ok (.getfield 49, 3) := by decide +kernel
theorem dX12_tries_136 : decode cX12_tries 136 = .ok (.bipush 21, 2) := by decide +kernel
theorem dX12_tries_138 : decode cX12_tries 138 = .ok (.iload_n 1, 1) := by decide +kernel
theorem dX12_tries_139 : decode cX12_tries 139 = .ok (.imul, 1) := by decide +kernel
theorem dX12_tries_140 : decode cX12_tries 140 = .ok (.iload 4, 2) := by decide +kernel
theorem dX12_tries_142 : decode cX12_tries 142 = .ok (.iadd, 1) := by decide +kernel
theorem dX12_tries_143 : decode cX12_tries 143 = .ok (.iaload, 1) := by decide +kernel
theorem dX12_tries_144 : decode cX12_tries 144 = .ok (.iadd, 1) := by decide +kernel
theorem dX12_tries_145 : decode cX12_tries 145 = .ok (.invokevirtual 294, 3) := by decide +kernel
theorem dX12_tries_148 : decode cX12_tries 148 = .ok (.aload_n 0, 1) := by decide +kernel
theorem dX12_tries_149 : decode cX12_tries 149 = .ok (.iload_n 1, 1) := by decide +kernel
theorem dX12_tries_150 : decode cX12_tries 150 = .ok (.iload 4, 2) := by decide +kernel
theorem dX12_tries_152 : decode cX12_tries 152 = .ok (.ineg, 1) := by decide +kernel
theorem dX12_tries_153 : decode cX12_tries 153 = .ok (.invokevirtual 292, 3) := by decide +kernel
theorem dX12_tries_156 : decode cX12_tries 156 = .ok (.istore 5, 2) := by decide +kernel
theorem dX12_tries_158 : decode cX12_tries 158 = .ok (.iinc 4 1, 3) := by decide +kernel
theorem dX12_tries_161 : decode cX12_tries 161 = .ok (.goto (-96), 3) := by decide +kernel
theorem dX12_tries_164 : decode cX12_tries 164 = .ok (.return_, 1) := by decide +kernel
theorem dX12_finds_0 : decode cX12_finds 0 = .ok (.aload_n 0, 1) := by decide +kernel
theorem dX12_finds_1 : decode cX12_finds 1 = .ok (.iload_n 1, 1) := by decide +kernel
theorem dX12_finds_2 : decode cX12_finds 2 = .ok (.invokevirtual 298, 3) := by decide +kernel
theorem dX12_finds_5 : decode cX12_finds 5 = .ok (.aload_n 0, 1) := by decide +kernel
theorem dX12_finds_6 : decode cX12_finds 6 = .ok (.ldc_w 282, 3) := by decide +kernel
theorem dX12_finds_9 : decode cX12_finds 9 = .ok (.putfield 286, 3) := by decide +kernel
theorem dX12_finds_12 : decode cX12_finds 12 = .ok (.iconst 0, 1) := by decide +kernel
theorem dX12_finds_13 : decode cX12_finds 13 = .ok (.istore_n 2, 1) := by decide +kernel
theorem dX12_finds_14 : decode cX12_finds 14 = .ok (.iload_n 2, 1) := by decide +kernel
theorem dX12_finds_15 : decode cX12_finds 15 = .ok (.aload_n 0, 1) := by decide +kernel
theorem dX12_finds_16 : decode cX12_finds 16 = .ok (.getfield 223, 3) := by decide +kernel
theorem dX12_finds_19 : decode cX12_finds 19 = .ok (.if_icmp .ge 21, 3) := by decide +kernel
theorem dX12_finds_22 : decode cX12_finds 22 = .ok (.aload_n 0, 1) := by decide +kernel
theorem dX12_finds_23 : decode cX12_finds 23 = .ok (.getfield 67, 3) := by decide +kernel
theorem dX12_finds_26 : decode cX12_finds 26 = .ok (.iload_n 2, 1) := by decide +kernel
theorem dX12_finds_27 : decode cX12_finds 27 = .ok (.aload_n 0, 1) := by decide +kernel
theorem dX12_finds_28 : decode cX12_finds 28 = .ok (.iload_n 2, 1) := by decide +kernel
theorem dX12_finds_29 : decode cX12_finds 29 = .ok (.iconst 0, 1) := by decide +kernel
theorem dX12_finds_30 : decode cX12_finds 30 = .ok (.invokevirtual 302, 3) := by decide +kernel
theorem dX12_finds_33 : decode cX12_finds 33 = .ok (.iastore, 1) := by decide +kernel
theorem dX12_finds_34 : decode cX12_finds 34 = .ok (.iinc 2 1, 3) := by decide +kernel
theorem dX12_finds_37 : decode cX12_finds 37 = .ok (.goto (-23), 3) := by decide +kernel
theorem dX12_finds_40 : decode cX12_finds 40 = .ok (.aload_n 0, 1) := by decide +kernel
theorem dX12_finds_41 : decode cX12_finds 41 = .ok (.iconst 0, 1) := by decide +kernel
theorem dX12_finds_42 : decode cX12_finds 42 = .ok (.aload_n 0, 1) := by decide +kernel
theorem dX12_finds_43 : decode cX12_finds 43 = .ok (.invokevirtual 260, 3) := by decide +kernel
theorem dX12_finds_46 : decode cX12_finds 46 = .ok (.iconst 0, 1) := by decide +kernel
theorem dX12_finds_47 : decode cX12_finds 47 = .ok (.invokevirtual 294, 3) := by decide +kernel
theorem dX12_finds_50 : decode cX12_finds 50 = .ok (.aload_n 0, 1) := by decide +kernel
theorem dX12_finds_51 : decode cX12_finds 51 = .ok (.getfield 286, 3) := by decide +kernel
theorem dX12_finds_54 : decode cX12_finds 54 = .ok (.ireturn, 1) := by decide +kernel
theorem dX12_findsGentle_0 : decode cX12_findsGentle 0 = .ok (.aload_n 0, 1) := by decide +kernel
theorem dX12_findsGentle_1 : decode cX12_findsGentle 1 = .ok (.iconst 1, 1) := by decide +kernel
theorem dX12_findsGentle_2 : decode cX12_findsGentle 2 = .ok (.putfield 283, 3) := by decide +kernel
theorem dX12_findsGentle_5 : decode cX12_findsGentle 5 = .ok (.aload_n 0, 1) := by decide +kernel
theorem dX12_findsGentle_6 : decode cX12_findsGentle 6 = .ok (.iconst 0, 1) := by decide +kernel
theorem dX12_findsGentle_7 : decode cX12_findsGentle 7 = .ok (.invokevirtual 305, 3) := by decide +kernel
theorem dX12_findsGentle_10 : decode cX12_findsGentle 10 = .ok (.istore_n 1, 1) := by decide +kernel
theorem dX12_findsGentle_11 : decode cX12_findsGentle 11 = .ok (.aload_n 0, 1) := by decide +kernel
theorem dX12_findsGentle_12 : decode cX12_findsGentle 12 = .ok (.iconst 0, 1) := by decide +kernel
theorem dX12_findsGentle_13 : decode cX12_findsGentle 13 = .ok (.putfield 283, 3) := by decide +kernel
theorem dX12_findsGentle_16 : decode cX12_findsGentle 16 = .ok (.iload_n 1, 1) := by decide +kernel
theorem dX12_findsGentle_17 : decode cX12_findsGentle 17 = .ok (.ireturn, 1) := by decide +kernel
theorem dX12_findsSteady_0 : decode cX12_findsSteady 0 = .ok (.aload_n 0, 1) := by decide +kernel
theorem dX12_findsSteady_1 : decode cX12_findsSteady 1 = .ok (.iload_n 1, 1) := by decide +kernel
theorem dX12_findsSteady_2 : decode cX12_findsSteady 2 = .ok (.putfield 64, 3) := by decide +kernel
theorem dX12_findsSteady_5 : decode cX12_findsSteady 5 = .ok (.aload_n 0, 1) := by decide +kernel
theorem dX12_findsSteady_6 : decode cX12_findsSteady 6 = .ok (.iconst 0, 1) := by decide +kernel
theorem dX12_findsSteady_7 : decode cX12_findsSteady 7 = .ok (.invokevirtual 305, 3) := by decide +kernel
theorem dX12_findsSteady_10 : decode cX12_findsSteady 10 = .ok (.istore_n 2, 1) := by decide +kernel
theorem dX12_findsSteady_11 : decode cX12_findsSteady 11 = .ok (.aload_n 0, 1) := by decide +kernel
theorem dX12_findsSteady_12 : decode cX12_findsSteady 12 = .ok (.iconst (-1), 1) := by decide +kernel
theorem dX12_findsSteady_13 : decode cX12_findsSteady 13 = .ok (.putfield 64, 3) := by decide +kernel
theorem dX12_findsSteady_16 : decode cX12_findsSteady 16 = .ok (.iload_n 2, 1) := by decide +kernel
theorem dX12_findsSteady_17 : decode cX12_findsSteady 17 = .ok (.ireturn, 1) := by decide +kernel
theorem dX12_gentle_0 : decode cX12_gentle 0 = .ok (.aload_n 0, 1) := by decide +kernel
theorem dX12_gentle_1 : decode cX12_gentle 1 = .ok (.iconst 0, 1) := by decide +kernel
theorem dX12_gentle_2 : decode cX12_gentle 2 = .ok (.putfield 73, 3) := by decide +kernel
theorem dX12_gentle_5 : decode cX12_gentle 5 = .ok (.aload_n 0, 1) := by decide +kernel
theorem dX12_gentle_6 : decode cX12_gentle 6 = .ok (.getfield 229, 3) := by decide +kernel
theorem dX12_gentle_9 : decode cX12_gentle 9 = .ok (.ifCond .eq 14, 3) := by decide +kernel
theorem dX12_gentle_12 : decode cX12_gentle 12 = .ok (.aload_n 0, 1) := by decide +kernel
theorem dX12_gentle_13 : decode cX12_gentle 13 = .ok (.aload_n 0, 1) := by decide +kernel
theorem dX12_gentle_14 : decode cX12_gentle 14 = .ok (.invokevirtual 309, 3) := by decide +kernel
theorem dX12_gentle_17 : decode cX12_gentle 17 = .ok (.invokevirtual 233, 3) := by decide +kernel
theorem dX12_gentle_20 : decode cX12_gentle 20 = .ok (.goto 8, 3) := by decide +kernel
theorem dX12_gentle_23 : decode cX12_gentle 23 = .ok (.aload_n 0, 1) := by decide +kernel
theorem dX12_gentle_24 : decode cX12_gentle 24 = .ok (.iconst 1, 1) := by decide +kernel
theorem dX12_gentle_25 : decode cX12_gentle 25 = .ok (.invokevirtual 213, 3) := by decide +kernel
theorem dX12_gentle_28 : decode cX12_gentle 28 = .ok (.ireturn, 1) := by decide +kernel
theorem dX12_gentleOf_0 : decode cX12_gentleOf 0 = .ok (.aload_n 0, 1) := by decide +kernel
theorem dX12_gentleOf_1 : decode cX12_gentleOf 1 = .ok (.iconst 0, 1) := by decide +kernel
theorem dX12_gentleOf_2 : decode cX12_gentleOf 2 = .ok (.putfield 73, 3) := by decide +kernel
theorem dX12_gentleOf_5 : decode cX12_gentleOf 5 = .ok (.aload_n 0, 1) := by decide +kernel
theorem dX12_gentleOf_6 : decode cX12_gentleOf 6 = .ok (.iload_n 1, 1) := by decide +kernel
theorem dX12_gentleOf_7 : decode cX12_gentleOf 7 = .ok (.invokevirtual 272, 3) := by decide +kernel
theorem dX12_gentleOf_10 : decode cX12_gentleOf 10 = .ok (.ifCond .ne 9, 3) := by decide +kernel
theorem dX12_gentleOf_13 : decode cX12_gentleOf 13 = .ok (.aload_n 0, 1) := by decide +kernel
theorem dX12_gentleOf_14 : decode cX12_gentleOf 14 = .ok (.iconst 1, 1) := by decide +kernel
theorem dX12_gentleOf_15 : decode cX12_gentleOf 15 = .ok (.invokevirtual 213, 3) := by decide +kernel
theorem dX12_gentleOf_18 : decode cX12_gentleOf 18 = .ok (.ireturn, 1) := by decide +kernel
theorem dX12_gentleOf_19 : decode cX12_gentleOf 19 = .ok (.aload_n 0, 1) := by decide +kernel
theorem dX12_gentleOf_20 : decode cX12_gentleOf 20 = .ok (.invokevirtual 309, 3) := by decide +kernel
theorem dX12_gentleOf_23 : decode cX12_gentleOf 23 = .ok (.istore_n 2, 1) := by decide +kernel
theorem dX12_gentleOf_24 : decode cX12_gentleOf 24 = .ok (.aload_n 0, 1) := by decide +kernel
theorem dX12_gentleOf_25 : decode cX12_gentleOf 25 = .ok (.iload_n 2, 1) := by decide +kernel
theorem dX12_gentleOf_26 : decode cX12_gentleOf 26 = .ok (.ldc_w 282, 3) := by decide +kernel
theorem dX12_gentleOf_29 : decode cX12_gentleOf 29 = .ok (.if_icmp .le 12, 3) := by decide +kernel
theorem dX12_gentleOf_32 : decode cX12_gentleOf 32 = .ok (.aload_n 0, 1) := by decide +kernel
theorem dX12_gentleOf_33 : decode cX12_gentleOf 33 = .ok (.getfield 61, 3) := by decide +kernel
theorem dX12_gentleOf_36 : decode cX12_gentleOf 36 = .ok (.iload_n 1, 1) := by decide +kernel
theorem dX12_gentleOf_37 : decode cX12_gentleOf 37 = .ok (.iaload, 1) := by decide +kernel
theorem dX12_gentleOf_38 : decode cX12_gentleOf 38 = .ok (.goto 4, 3) := by decide +kernel
theorem dX12_gentleOf_41 : decode cX12_gentleOf 41 = .ok (.iconst 0, 1) := by decide +kernel
theorem dX12_gentleOf_42 : decode cX12_gentleOf 42 = .ok (.invokevirtual 233, 3) := by decide +kernel
theorem dX12_gentleOf_45 : decode cX12_gentleOf 45 = .ok (.ireturn, 1) := by decide +kernel
theorem dX12_steady_0 : decode cX12_steady 0 = .ok (.aload_n 0, 1) := by decide +kernel
theorem dX12_steady_1 : decode cX12_steady 1 = .ok (.iconst 0, 1) := by decide +kernel
theorem dX12_steady_2 : decode cX12_steady 2 = .ok (.putfield 73, 3) := by decide +kernel
theorem dX12_steady_5 : decode cX12_steady 5 = .ok (.aload_n 0, 1) := by decide +kernel
theorem dX12_steady_6 : decode cX12_steady 6 = .ok (.getfield 229, 3) := by decide +kernel
theorem dX12_steady_9 : decode cX12_steady 9 = .ok (.ifCond .ne 9, 3) := by decide +kernel
theorem dX12_steady_12 : decode cX12_steady 12 = .ok (.aload_n 0, 1) := by decide +kernel
theorem dX12_steady_13 : decode cX12_steady 13 = .ok (.iconst 1, 1) := by decide +kernel
theorem dX12_steady_14 : decode cX12_steady 14 = .ok (.invokevirtual 213, 3) := by decide +kernel
theorem dX12_steady_17 : decode cX12_steady 17 = .ok (.ireturn, 1) := by decide +kernel
theorem dX12_steady_18 : decode cX12_steady 18 = .ok (.iload_n 1, 1) := by decide +kernel
theorem dX12_steady_19 : decode cX12_steady 19 = .ok (.invokestatic 275, 3) := by decide +kernel
theorem dX12_steady_22 : decode cX12_steady 22 = .ok (.ifCond .ne 9, 3) := by decide +kernel
theorem dX12_steady_25 : decode cX12_steady 25 = .ok (.aload_n 0, 1) := by decide +kernel
theorem dX12_steady_26 : decode cX12_steady 26 = .ok (.iconst 2, 1) := by decide +kernel
theorem dX12_steady_27 : decode cX12_steady 27 = .ok (.invokevirtual 213, 3) := by decide +kernel
theorem dX12_steady_30 : decode cX12_steady 30 = .ok (.ireturn, 1) := by decide +kernel
theorem dX12_steady_31 : decode cX12_steady 31 = .ok (.aload_n 0, 1) := by decide +kernel
theorem dX12_steady_32 : decode cX12_steady 32 = .ok (.iload_n 1, 1) := by decide +kernel
theorem dX12_steady_33 : decode cX12_steady 33 = .ok (.invokevirtual 312, 3) := by decide +kernel
theorem dX12_steady_36 : decode cX12_steady 36 = .ok (.istore_n 2, 1) := by decide +kernel
theorem dX12_steady_37 : decode cX12_steady 37 = .ok (.iload_n 2, 1) := by decide +kernel
theorem dX12_steady_38 : decode cX12_steady 38 = .ok (.ldc_w 282, 3) := by decide +kernel
theorem dX12_steady_41 : decode cX12_steady 41 = .ok (.if_icmp .ne 12, 3) := by decide +kernel
theorem dX12_steady_44 : decode cX12_steady 44 = .ok (.aload_n 0, 1) := by decide +kernel
theorem dX12_steady_45 : decode cX12_steady 45 = .ok (.bipush 6, 2) := by decide +kernel
theorem dX12_steady_47 : decode cX12_steady 47 = .ok (.invokevirtual 213, 3) := by decide +kernel
theorem dX12_steady_50 : decode cX12_steady 50 = .ok (.goto 8, 3) := by decide +kernel
theorem dX12_steady_53 : decode cX12_steady 53 = .ok (.aload_n 0, 1) := by decide +kernel
theorem dX12_steady_54 : decode cX12_steady 54 = .ok (.iload_n 2, 1) := by decide +kernel
theorem dX12_steady_55 : decode cX12_steady 55 = .ok (.invokevirtual 233, 3) := by decide +kernel
theorem dX12_steady_58 : decode cX12_steady 58 = .ok (.ireturn, 1) := by decide +kernel
theorem dX12_steadyOf_0 : decode cX12_steadyOf 0 = .ok (.aload_n 0, 1) := by decide +kernel
theorem dX12_steadyOf_1 : decode cX12_steadyOf 1 = .ok (.iconst 0, 1) := by decide +kernel
theorem dX12_steadyOf_2 : decode cX12_steadyOf 2 = .ok (.putfield 73, 3) := by decide +kernel
theorem dX12_steadyOf_5 : decode cX12_steadyOf 5 = .ok (.aload_n 0, 1) := by decide +kernel
theorem dX12_steadyOf_6 : decode cX12_steadyOf 6 = .ok (.iload_n 2, 1) := by decide +kernel
theorem dX12_steadyOf_7 : decode cX12_steadyOf 7 = .ok (.invokevirtual 272, 3) := by decide +kernel
theorem dX12_steadyOf_10 : decode cX12_steadyOf 10 = .ok (.ifCond .ne 9, 3) := by decide +kernel
theorem dX12_steadyOf_13 : decode cX12_steadyOf 13 = .ok (.aload_n 0, 1) := by decide +kernel
theorem dX12_steadyOf_14 : decode cX12_steadyOf 14 = .ok (.iconst 1, 1) := by decide +kernel
theorem dX12_steadyOf_15 : decode cX12_steadyOf 15 = .ok (.invokevirtual 213, 3) := by decide +kernel
theorem dX12_steadyOf_18 : decode cX12_steadyOf 18 = .ok (.ireturn, 1) := by decide +kernel
theorem dX12_steadyOf_19 : decode cX12_steadyOf 19 = .ok (.iload_n 1, 1) := by decide +kernel
theorem dX12_steadyOf_20 : decode cX12_steadyOf 20 = .ok (.invokestatic 275, 3) := by decide +kernel
theorem dX12_steadyOf_23 : decode cX12_steadyOf 23 = .ok (.ifCond .ne 9, 3) := by decide +kernel
theorem dX12_steadyOf_26 : decode cX12_steadyOf 26 = .ok (.aload_n 0, 1) := by decide +kernel
theorem dX12_steadyOf_27 : decode cX12_steadyOf 27 = .ok (.iconst 2, 1) := by decide +kernel
theorem dX12_steadyOf_28 : decode cX12_steadyOf 28 = .ok (.invokevirtual 213, 3) := by decide +kernel
theorem dX12_steadyOf_31 : decode cX12_steadyOf 31 = .ok (.ireturn, 1) := by decide +kernel
theorem dX12_steadyOf_32 : decode cX12_steadyOf 32 = .ok (.aload_n 0, 1) := by decide +kernel
theorem dX12_steadyOf_33 : decode cX12_steadyOf 33 = .ok (.iload_n 1, 1) := by decide +kernel
theorem dX12_steadyOf_34 : decode cX12_steadyOf 34 = .ok (.invokevirtual 312, 3) := by decide +kernel
theorem dX12_steadyOf_37 : decode cX12_steadyOf 37 = .ok (.ldc_w 282, 3) := by decide +kernel
theorem dX12_steadyOf_40 : decode cX12_steadyOf 40 = .ok (.if_icmp .ne 12, 3) := by decide +kernel
theorem dX12_steadyOf_43 : decode cX12_steadyOf 43 = .ok (.aload_n 0, 1) := by decide +kernel
theorem dX12_steadyOf_44 : decode cX12_steadyOf 44 = .ok (.bipush 6, 2) := by decide +kernel
theorem dX12_steadyOf_46 : decode cX12_steadyOf 46 = .ok (.invokevirtual 213, 3) := by decide +kernel
theorem dX12_steadyOf_49 : decode cX12_steadyOf 49 = .ok (.goto 13, 3) := by decide +kernel
theorem dX12_steadyOf_52 : decode cX12_steadyOf 52 = .ok (.aload_n 0, 1) := by decide +kernel
theorem dX12_steadyOf_53 : decode cX12_steadyOf 53 = .ok (.aload_n 0, 1) := by decide +kernel
theorem dX12_steadyOf_54 : decode cX12_steadyOf 54 = .ok (.getfield 61, 3) := by decide +kernel
theorem dX12_steadyOf_57 : decode cX12_steadyOf 57 = .ok (.iload_n 2, 1) := by decide +kernel
theorem dX12_steadyOf_58 : decode cX12_steadyOf 58 = .ok (.iaload, 1) := by decide +kernel
theorem dX12_steadyOf_59 : decode cX12_steadyOf 59 = .ok (.invokevirtual 233, 3) := by decide +kernel
theorem dX12_steadyOf_62 : decode cX12_steadyOf 62 = .ok (.ireturn, 1) := by decide +kernel
theorem dX12_isBuyer_0 : decode cX12_isBuyer 0 = .ok (.aload_n 0, 1) := by decide +kernel
theorem dX12_isBuyer_1 : decode cX12_isBuyer 1 = .ok (.getfield 229, 3) := by decide +kernel
theorem dX12_isBuyer_4 : decode cX12_isBuyer 4 = .ok (.ifCond .eq 21, 3) := by decide +kernel
theorem dX12_isBuyer_7 : decode cX12_isBuyer 7 = .ok (.iload_n 1, 1) := by decide +kernel
theorem dX12_isBuyer_8 : decode cX12_isBuyer 8 = .ok (.iconst 0, 1) := by decide +kernel
theorem dX12_isBuyer_9 : decode cX12_isBuyer 9 = .ok (.aload_n 0, 1) := by decide +kernel
theorem dX12_isBuyer_10 : decode cX12_isBuyer 10 = .ok (.getfield 223, 3) := by decide +kernel
theorem dX12_isBuyer_13 : decode cX12_isBuyer 13 = .ok (.iconst 1, 1) := by decide +kernel
theorem dX12_isBuyer_14 : decode cX12_isBuyer 14 = .ok (.isub, 1) := by decide +kernel
theorem dX12_isBuyer_15 : decode cX12_isBuyer 15 = .ok (.invokestatic 94, 3) := by decide +kernel
theorem dX12_isBuyer_18 : decode cX12_isBuyer 18 = .ok (.ifCond .eq 7, 3) := by decide +kernel
theorem dX12_isBuyer_21 : decode cX12_isBuyer 21 = .ok (.iconst 1, 1) := by decide +kernel
theorem dX12_isBuyer_22 : decode cX12_isBuyer 22 = .ok (.goto 4, 3) := by decide +kernel
theorem dX12_isBuyer_25 : decode cX12_isBuyer 25 = .ok (.iconst 0, 1) := by decide +kernel
theorem dX12_isBuyer_26 : decode cX12_isBuyer 26 = .ok (.ireturn, 1) := by decide +kernel
theorem dX12_buyer_0 : decode cX12_buyer 0 = .ok (.aload_n 0, 1) := by decide +kernel
theorem dX12_buyer_1 : decode cX12_buyer 1 = .ok (.iconst 0, 1) := by decide +kernel
theorem dX12_buyer_2 : decode cX12_buyer 2 = .ok (.putfield 73, 3) := by decide +kernel
theorem dX12_buyer_5 : decode cX12_buyer 5 = .ok (.aload_n 0, 1) := by decide +kernel
theorem dX12_buyer_6 : decode cX12_buyer 6 = .ok (.iload_n 1, 1) := by decide +kernel
theorem dX12_buyer_7 : decode cX12_buyer 7 = .ok (.invokevirtual 315, 3) := by decide +kernel
theorem dX12_buyer_10 : decode cX12_buyer 10 = .ok (.ifCond .eq 12, 3) := by decide +kernel
theorem dX12_buyer_13 : decode cX12_buyer 13 = .ok (.iload_n 2, 1) := by decide +kernel
theorem dX12_buyer_14 : decode cX12_buyer 14 = .ok (.iconst 0, 1) := by decide +kernel
theorem dX12_buyer_15 : decode cX12_buyer 15 = .ok (.iconst 2, 1) := by decide +kernel
theorem dX12_buyer_16 : decode cX12_buyer 16 = .ok (.invokestatic 94, 3) := by decide +kernel
theorem dX12_buyer_19 : decode cX12_buyer 19 = .ok (.ifCond .ne 9, 3) := by decide +kernel
theorem dX12_buyer_22 : decode cX12_buyer 22 = .ok (.aload_n 0, 1) := by decide +kernel
theorem dX12_buyer_23 : decode cX12_buyer 23 = .ok (.iconst 1, 1) := by decide +kernel
theorem dX12_buyer_24 : decode cX12_buyer 24 = .ok (.invokevirtual 213, 3) := by decide +kernel
theorem dX12_buyer_27 : decode cX12_buyer 27 = .ok (.ireturn, 1) := by decide +kernel
theorem dX12_buyer_28 : decode cX12_buyer 28 = .ok (.iconst 0, 1) := by decide +kernel
theorem dX12_buyer_29 : decode cX12_buyer 29 = .ok (.istore_n 3, 1) := by decide +kernel
theorem dX12_buyer_30 : decode cX12_buyer 30 = .ok (.iconst 0, 1) := by decide +kernel
theorem dX12_buyer_31 : decode cX12_buyer 31 = .ok (.istore 4, 2) := by decide +kernel
theorem dX12_buyer_33 : decode cX12_buyer 33 = .ok (.iload 4, 2) := by decide +kernel
theorem dX12_buyer_35 : decode cX12_buyer 35 = .ok (.aload_n 0, 1) := by decide +kernel
theorem dX12_buyer_36 : decode cX12_buyer 36 = .ok (.getfield 220, 3) := by decide +kernel
theorem dX12_buyer_39 : decode cX12_buyer 39 = .ok (.if_icmp .ge 23, 3) := by decide +kernel
theorem dX12_buyer_42 : decode cX12_buyer 42 = .ok (.iload_n 3, 1) := by decide +kernel
theorem dX12_buyer_43 : decode cX12_buyer 43 = .ok (.aload_n 0, 1) := by decide +kernel
theorem dX12_buyer_44 : decode cX12_buyer 44 = .ok (.getfield 43, 3) := by decide +kernel
theorem dX12_buyer_47 : decode cX12_buyer 47 = .ok (.iconst 4, 1) := by decide +kernel
theorem dX12_buyer_48 : decode cX12_buyer 48 = .ok (.iload_n 1, 1) := by decide +kernel
theorem dX12_buyer_49 : decode cX12_buyer 49 = .ok (.imul, 1) := by decide +kernel
theorem dX12_buyer_50 : decode cX12_buyer 50 = .ok (.iload 4, 2) := by decide +kernel
theorem dX12_buyer_52 : decode cX12_buyer 52 = .ok (.iadd, 1) := by decide +kernel
theorem dX12_buyer_53 : decode cX12_buyer 53 = .ok (.iaload, 1) := by decide +kernel
theorem dX12_buyer_54 : decode cX12_buyer 54 = .ok (.iadd, 1) := by decide +kernel
theorem dX12_buyer_55 : decode cX12_buyer 55 = .ok (.istore_n 3, 1) := by decide +kernel
theorem dX12_buyer_56 : decode cX12_buyer 56 = .ok (.iinc 4 1, 3) := by decide +kernel
theorem dX12_buyer_59 : decode cX12_buyer 59 = .ok (.goto (-26), 3) := by decide +kernel
theorem dX12_buyer_62 : decode cX12_buyer 62 = .ok (.aload_n 0, 1) := by decide +kernel
theorem dX12_buyer_63 : decode cX12_buyer 63 = .ok (.iload_n 2, 1) := by decide +kernel
theorem dX12_buyer_64 : decode cX12_buyer 64 = .ok (.iconst 2, 1) := by decide +kernel
theorem dX12_buyer_65 : decode cX12_buyer 65 = .ok (.if_icmp .ne 7, 3) := by decide +kernel
theorem dX12_buyer_68 : decode cX12_buyer 68 = .ok (.iload_n 3, 1) := by decide +kernel
theorem dX12_buyer_69 : decode cX12_buyer 69 = .ok (.goto 9, 3) := by decide +kernel
theorem dX12_buyer_72 : decode cX12_buyer 72 = .ok (.aload_n 0, 1) := by decide +kernel
theorem dX12_buyer_73 : decode cX12_buyer 73 = .ok (.iload_n 1, 1) := by decide +kernel
theorem dX12_buyer_74 : decode cX12_buyer 74 = .ok (.iload_n 2, 1) := by decide +kernel
theorem dX12_buyer_75 : decode cX12_buyer 75 = .ok (.invokevirtual 302, 3) := by decide +kernel
theorem dX12_buyer_78 : decode cX12_buyer 78 = .ok (.invokevirtual 233, 3) := by decide +kernel
theorem dX12_buyer_81 : decode cX12_buyer 81 = .ok (.ireturn, 1) := by decide +kernel
theorem dX12_units_0 : decode cX12_units 0 = .ok (.aload_n 0, 1) := by decide +kernel
theorem dX12_units_1 : decode cX12_units 1 = .ok (.iconst 0, 1) := by decide +kernel
theorem dX12_units_2 : decode cX12_units 2 = .ok (.putfield 73, 3) := by decide +kernel
theorem dX12_units_5 : decode cX12_units 5 = .ok (.aload_n 0, 1) := by decide +kernel
theorem dX12_units_6 : decode cX12_units 6 = .ok (.iload_n 1, 1) := by decide +kernel
theorem dX12_units_7 : decode cX12_units 7 = .ok (.invokevirtual 315, 3) := by decide +kernel
theorem dX12_units_10 : decode cX12_units 10 = .ok (.ifCond .eq 28, 3) := by decide +kernel
theorem dX12_units_13 : decode cX12_units 13 = .ok (.aload_n 0, 1) := by decide +kernel
theorem dX12_units_14 : decode cX12_units 14 = .ok (.iload_n 2, 1) := by decide +kernel
theorem dX12_units_15 : decode cX12_units 15 = .ok (.invokevirtual 272, 3) := by decide +kernel
theorem dX12_units_18 : decode cX12_units 18 = .ok (.ifCond .eq 20, 3) := by decide +kernel
theorem dX12_units_21 : decode cX12_units 21 = .ok (.aload_n 0, 1) := by decide +kernel
theorem dX12_units_22 : decode cX12_units 22 = .ok (.aload_n 0, 1) := by decide +kernel
theorem dX12_units_23 : decode cX12_units 23 = .ok (.getfield 43, 3) := by decide +kernel
theorem dX12_units_26 : decode cX12_units 26 = .ok (.iconst 4, 1) := by decide +kernel
theorem dX12_units_27 : decode cX12_units 27 = .ok (.iload_n 1, 1) := by decide +kernel
theorem dX12_units_28 : decode cX12_units 28 = .ok (.imul, 1) := by decide +kernel
theorem dX12_units_29 : decode cX12_units 29 = .ok (.iload_n 2, 1) := by decide +kernel
theorem dX12_units_30 : decode cX12_units 30 = .ok (.iadd, 1) := by decide +kernel
theorem dX12_units_31 : decode cX12_units 31 = .ok (.iaload, 1) := by decide +kernel
theorem dX12_units_32 : decode cX12_units 32 = .ok (.invokevirtual 233, 3) := by decide +kernel
theorem dX12_units_35 : decode cX12_units 35 = .ok (.goto 8, 3) := by decide +kernel
theorem dX12_units_38 : decode cX12_units 38 = .ok (.aload_n 0, 1) := by decide +kernel
theorem dX12_units_39 : decode cX12_units 39 = .ok (.iconst 1, 1) := by decide +kernel
theorem dX12_units_40 : decode cX12_units 40 = .ok (.invokevirtual 213, 3) := by decide +kernel
theorem dX12_units_43 : decode cX12_units 43 = .ok (.ireturn, 1) := by decide +kernel
theorem dX12_hurt_0 : decode cX12_hurt 0 = .ok (.aload_n 0, 1) := by decide +kernel
theorem dX12_hurt_1 : decode cX12_hurt 1 = .ok (.iconst 0, 1) := by decide +kernel
theorem dX12_hurt_2 : decode cX12_hurt 2 = .ok (.putfield 73, 3) := by decide +kernel
theorem dX12_hurt_5 : decode cX12_hurt 5 = .ok (.aload_n 0, 1) := by decide +kernel
theorem dX12_hurt_6 : decode cX12_hurt 6 = .ok (.getfield 229, 3) := by decide +kernel
theorem dX12_hurt_9 : decode cX12_hurt 9 = .ok (.ifCond .ne 9, 3) := by decide +kernel
theorem dX12_hurt_12 : decode cX12_hurt 12 = .ok (.aload_n 0, 1) := by decide +kernel
theorem dX12_hurt_13 : decode cX12_hurt 13 = .ok (.iconst 1, 1) := by decide +kernel
theorem dX12_hurt_14 : decode cX12_hurt 14 = .ok (.invokevirtual 213, 3) := by decide +kernel
theorem dX12_hurt_17 : decode cX12_hurt 17 = .ok (.ireturn, 1) := by decide +kernel
theorem dX12_hurt_18 : decode cX12_hurt 18 = .ok (.iconst 0, 1) := by decide +kernel
theorem dX12_hurt_19 : decode cX12_hurt 19 = .ok (.istore_n 1, 1) := by decide +kernel
theorem dX12_hurt_20 : decode cX12_hurt 20 = .ok (.iconst 0, 1) := by decide +kernel
theorem dX12_hurt_21 : decode cX12_hurt 21 = .ok (.istore_n 2, 1) := by decide +kernel
theorem dX12_hurt_22 : decode cX12_hurt 22 = .ok (.iload_n 2, 1) := by decide +kernel
theorem dX12_hurt_23 : decode cX12_hurt 23 = .ok (.aload_n 0, 1) := by decide +kernel
theorem dX12_hurt_24 : decode cX12_hurt 24 = .ok (.getfield 223, 3) := by decide +kernel
theorem dX12_hurt_27 : decode cX12_hurt 27 = .ok (.if_icmp .ge 34, 3) := by decide +kernel
theorem dX12_hurt_30 : decode cX12_hurt 30 = .ok (.iload_n 1, 1) := by decide +kernel
theorem dX12_hurt_31 : decode cX12_hurt 31 = .ok (.aload_n 0, 1) := by decide +kernel
theorem dX12_hurt_32 : decode cX12_hurt 32 = .ok (.iload_n 2, 1) := by decide +kernel
theorem dX12_hurt_33 : decode cX12_hurt 33 = .ok (.iconst 1, 1) := by decide +kernel
theorem dX12_hurt_34 : decode cX12_hurt 34 = .ok (.invokevirtual 302, 3) := by decide +kernel
theorem dX12_hurt_37 : decode cX12_hurt 37 = .ok (.aload_n 0, 1) := by decide +kernel
theorem dX12_hurt_38 : decode cX12_hurt 38 = .ok (.iload_n 2, 1) := by decide +kernel
theorem dX12_hurt_39 : decode cX12_hurt 39 = .ok (.iconst 0, 1) := by decide +kernel
theorem dX12_hurt_40 : decode cX12_hurt 40 = .ok (.invokevirtual 302, 3) := by decide +kernel
theorem dX12_hurt_43 : decode cX12_hurt 43 = .ok (.if_icmp .le 9, 3) := by decide +kernel
theorem dX12_hurt_46 : decode cX12_hurt 46 = .ok (.iconst 1, 1) := by decide +kernel
theorem dX12_hurt_47 : decode cX12_hurt 47 = .ok (.iload_n 2, 1) := by decide +kernel
theorem dX12_hurt_48 : decode cX12_hurt 48 = .ok (.ishl, 1) := by decide +kernel
theorem dX12_hurt_49 : decode cX12_hurt 49 = .ok (.goto 4, 3) := by decide +kernel
theorem dX12_hurt_52 : decode cX12_hurt 52 = .ok (.iconst 0, 1) := by decide +kernel
theorem dX12_hurt_53 : decode cX12_hurt 53 = .ok (.ior, 1) := by decide +kernel
theorem dX12_hurt_54 : decode cX12_hurt 54 = .ok (.istore_n 1, 1) := by decide +kernel
theorem dX12_hurt_55 : decode cX12_hurt 55 = .ok (.iinc 2 1, 3) := by decide +kernel
theorem dX12_hurt_58 : decode cX12_hurt 58 = .ok (.goto (-36), 3) := by decide +kernel
theorem dX12_hurt_61 : decode cX12_hurt 61 = .ok (.aload_n 0, 1) := by decide +kernel
theorem dX12_hurt_62 : decode cX12_hurt 62 = .ok (.iload_n 1, 1) := by decide +kernel
theorem dX12_hurt_63 : decode cX12_hurt 63 = .ok (.invokevirtual 233, 3) := by decide +kernel
theorem dX12_hurt_66 : decode cX12_hurt 66 = .ok (.ireturn, 1) := by decide +kernel
theorem dX12_hardest_0 : decode cX12_hardest 0 = .ok (.aload_n 0, 1) := by decide +kernel
theorem dX12_hardest_1 : decode cX12_hardest 1 = .ok (.iconst 0, 1) := by decide +kernel
theorem dX12_hardest_2 : decode cX12_hardest 2 = .ok (.putfield 73, 3) := by decide +kernel
theorem dX12_hardest_5 : decode cX12_hardest 5 = .ok (.aload_n 0, 1) := by decide +kernel
theorem dX12_hardest_6 : decode cX12_hardest 6 = .ok (.getfield 229, 3) := by decide +kernel
theorem dX12_hardest_9 : decode cX12_hardest 9 = .ok (.ifCond .ne 9, 3) := by decide +kernel
theorem dX12_hardest_12 : decode cX12_hardest 12 = .ok (.aload_n 0, 1) := by decide +kernel
theorem dX12_hardest_13 : decode cX12_hardest 13 = .ok (.iconst 1, 1) := by decide +kernel
theorem dX12_hardest_14 : decode cX12_hardest 14 = .ok (.invokevirtual 213, 3) := by decide +kernel
theorem dX12_hardest_17 : decode cX12_hardest 17 = .ok (.ireturn, 1) := by decide +kernel
theorem dX12_hardest_18 : decode cX12_hardest 18 = .ok (.bipush (-2), 2) := by decide +kernel
theorem dX12_hardest_20 : decode cX12_hardest 20 = .ok (.istore_n 1, 1) := by decide +kernel
theorem dX12_hardest_21 : decode cX12_hardest 21 = .ok (.iconst 0, 1) := by decide +kernel
theorem dX12_hardest_22 : decode cX12_hardest 22 = .ok (.istore_n 2, 1) := by decide +kernel
theorem dX12_hardest_23 : decode cX12_hardest 23 = .ok (.iconst 0, 1) := by decide +kernel
theorem dX12_hardest_24 : decode cX12_hardest 24 = .ok (.istore_n 3, 1) := by decide +kernel
theorem dX12_hardest_25 : decode cX12_hardest 25 = .ok (.iload_n 3, 1) := by decide +kernel
theorem dX12_hardest_26 : decode cX12_hardest 26 = .ok (.aload_n 0, 1) := by decide +kernel
theorem dX12_hardest_27 : decode cX12_hardest 27 = .ok (.getfield 223, 3) := by decide +kernel
theorem dX12_hardest_30 : decode cX12_hardest 30 = .ok (.if_icmp .ge 44, 3) := by decide +kernel
theorem dX12_hardest_33 : decode cX12_hardest 33 = .ok (.aload_n 0, 1) := by decide +kernel
theorem dX12_hardest_34 : decode cX12_hardest 34 = .ok (.iload_n 3, 1) := by decide +kernel
theorem dX12_hardest_35 : decode cX12_hardest 35 = .ok (.iconst 1, 1) := by decide +kernel
theorem dX12_hardest_36 : decode cX12_hardest 36 = .ok (.invokevirtual 302, 3) := by decide +kernel
theorem dX12_hardest_39 : decode cX12_hardest 39 = .ok (.aload_n 0, 1) := by decide +kernel
theorem dX12_hardest_40 : decode cX12_hardest 40 = .ok (.iload_n 3, 1) := by decide +kernel
theorem dX12_hardest_41 : decode cX12_hardest 41 = .ok (.iconst 0, 1) := by decide +kernel
theorem dX12_hardest_42 : decode cX12_hardest 42 = .ok (.invokevirtual 302, 3) := by decide +kernel
theorem dX12_hardest_45 : decode cX12_hardest 45 = .ok (.isub, 1) := by decide +kernel
theorem dX12_hardest_46 : decode cX12_hardest 46 = .ok (.istore 4, 2) := by decide +kernel
theorem dX12_hardest_48 : decode cX12_hardest 48 = .ok (.iload_n 1, 1) := by decide +kernel
theorem dX12_hardest_49 : decode cX12_hardest 49 = .ok (.bipush (-2), 2) := by decide +kernel
theorem dX12_hardest_51 : decode cX12_hardest 51 = .ok (.if_icmp .eq 12, 3) := by decide +kernel
theorem dX12_hardest_54 : decode cX12_hardest 54 = .ok (.iload 4, 2) := by decide +kernel
theorem dX12_hardest_56 : decode cX12_hardest 56 = .ok (.iload_n 2, 1) := by decide +kernel
theorem dX12_hardest_57 : decode cX12_hardest 57 = .ok (.if_icmp .gt 6, 3) := by decide +kernel
theorem dX12_hardest_60 : decode cX12_hardest 60 = .ok (.goto 8, 3) := by decide +kernel
theorem dX12_hardest_63 : decode cX12_hardest 63 = .ok (.iload_n 3, 1) := by decide +kernel
theorem dX12_hardest_64 : decode cX12_hardest 64 = .ok (.istore_n 1, 1) := by decide +kernel
theorem dX12_hardest_65 : decode cX12_hardest 65 = .ok (.iload 4, 2) := by decide +kernel
theorem dX12_hardest_67 : decode cX12_hardest 67 = .ok (.istore_n 2, 1) := by decide +kernel
theorem dX12_hardest_68 : decode cX12_hardest 68 = .ok (.iinc 3 1, 3) := by decide +kernel
theorem dX12_hardest_71 : decode cX12_hardest 71 = .ok (.goto (-46), 3) := by decide +kernel
theorem dX12_hardest_74 : decode cX12_hardest 74 = .ok (.aload_n 0, 1) := by decide +kernel
theorem dX12_hardest_75 : decode cX12_hardest 75 = .ok (.iload_n 1, 1) := by decide +kernel
theorem dX12_hardest_76 : decode cX12_hardest 76 = .ok (.invokevirtual 233, 3) := by decide +kernel
theorem dX12_hardest_79 : decode cX12_hardest 79 = .ok (.ireturn, 1) := by decide +kernel
theorem dX12_common_0 : decode cX12_common 0 = .ok (.iload_n 0, 1) := by decide +kernel
theorem dX12_common_1 : decode cX12_common 1 = .ok (.istore_n 2, 1) := by decide +kernel
theorem dX12_common_2 : decode cX12_common 2 = .ok (.iload_n 1, 1) := by decide +kernel
theorem dX12_common_3 : decode cX12_common 3 = .ok (.istore_n 3, 1) := by decide +kernel
theorem dX12_common_4 : decode cX12_common 4 = .ok (.iload_n 3, 1) := by decide +kernel
theorem dX12_common_5 : decode cX12_common 5 = .ok (.ifCond .eq 16, 3) := by decide +kernel
theorem dX12_common_8 : decode cX12_common 8 = .ok (.iload_n 2, 1) := by decide +kernel
theorem dX12_common_9 : decode cX12_common 9 = .ok (.iload_n 3, 1) := by decide +kernel
theorem dX12_common_10 : decode cX12_common 10 = .ok (.irem, 1) := by decide +kernel
theorem dX12_common_11 : decode cX12_common 11 = .ok (.istore 4, 2) := by decide +kernel
theorem dX12_common_13 : decode cX12_common 13 = .ok (.iload_n 3, 1) := by decide +kernel
theorem dX12_common_14 : decode cX12_common 14 = .ok (.istore_n 2, 1) := by decide +kernel
theorem dX12_common_15 : decode cX12_common 15 = .ok (.iload 4, 2) := by decide +kernel
theorem dX12_common_17 : decode cX12_common 17 = .ok (.istore_n 3, 1) := by decide +kernel
theorem dX12_common_18 : decode cX12_common 18 = .ok (.goto (-14), 3) := by decide +kernel
theorem dX12_common_21 : decode cX12_common 21 = .ok (.iload_n 2, 1) := by decide +kernel
theorem dX12_common_22 : decode cX12_common 22 = .ok (.ireturn, 1) := by decide +kernel
theorem dX12_part_0 : decode cX12_part 0 = .ok (.aload_n 0, 1) := by decide +kernel
theorem dX12_part_1 : decode cX12_part 1 = .ok (.iload_n 3, 1) := by decide +kernel
theorem dX12_part_2 : decode cX12_part 2 = .ok (.ifCond .ne 7, 3) := by decide +kernel
theorem dX12_part_5 : decode cX12_part 5 = .ok (.iload_n 1, 1) := by decide +kernel
theorem dX12_part_6 : decode cX12_part 6 = .ok (.goto 4, 3) := by decide +kernel
theorem dX12_part_9 : decode cX12_part 9 = .ok (.iload_n 2, 1) := by decide +kernel
theorem dX12_part_10 : decode cX12_part 10 = .ok (.iload_n 1, 1) := by decide +kernel
theorem dX12_part_11 : decode cX12_part 11 = .ok (.iload_n 2, 1) := by decide +kernel
theorem dX12_part_12 : decode cX12_part 12 = .ok (.invokestatic 318, 3) := by decide +kernel
theorem dX12_part_15 : decode cX12_part 15 = .ok (.idiv, 1) := by decide +kernel
theorem dX12_part_16 : decode cX12_part 16 = .ok (.invokevirtual 233, 3) := by decide +kernel
theorem dX12_part_19 : decode cX12_part 19 = .ok (.ireturn, 1) := by decide +kernel
theorem dX12_level_0 : decode cX12_level 0 = .ok (.aload_n 0, 1) := by decide +kernel
theorem dX12_level_1 : decode cX12_level 1 = .ok (.iconst 0, 1) := by decide +kernel
theorem dX12_level_2 : decode cX12_level 2 = .ok (.putfield 73, 3) := by decide +kernel
theorem dX12_level_5 : decode cX12_level 5 = .ok (.aload_n 0, 1) := by decide +kernel
theorem dX12_level_6 : decode cX12_level 6 = .ok (.getfield 229, 3) := by decide +kernel
theorem dX12_level_9 : decode cX12_level 9 = .ok (.ifCond .eq 21, 3) := by decide +kernel
theorem dX12_level_12 : decode cX12_level 12 = .ok (.iload_n 1, 1) := by decide +kernel
theorem dX12_level_13 : decode cX12_level 13 = .ok (.iconst 0, 1) := by decide +kernel
theorem dX12_level_14 : decode cX12_level 14 = .ok (.iconst 1, 1) := by decide +kernel
theorem dX12_level_15 : decode cX12_level 15 = .ok (.invokestatic 94, 3) := by decide +kernel
theorem dX12_level_18 : decode cX12_level 18 = .ok (.ifCond .eq 12, 3) := by decide +kernel
theorem dX12_level_21 : decode cX12_level 21 = .ok (.iload_n 2, 1) := by decide +kernel
theorem dX12_level_22 : decode cX12_level 22 = .ok (.iconst 0, 1) := by decide +kernel
theorem dX12_level_23 : decode cX12_level 23 = .ok (.iconst 1, 1) := by decide +kernel
theorem dX12_level_24 : decode cX12_level 24 = .ok (.invokestatic 94, 3) := by decide +kernel
theorem dX12_level_27 : decode cX12_level 27 = .ok (.ifCond .ne 9, 3) := by decide +kernel
theorem dX12_level_30 : decode cX12_level 30 = .ok (.aload_n 0, 1) := by decide +kernel
theorem dX12_level_31 : decode cX12_level 31 = .ok (.iconst 1, 1) := by decide +kernel
theorem dX12_level_32 : decode cX12_level 32 = .ok (.invokevirtual 213, 3) := by decide +kernel
theorem dX12_level_35 : decode cX12_level 35 = .ok (.ireturn, 1) := by decide +kernel
theorem dX12_level_36 : decode cX12_level 36 = .ok (.iconst 0, 1) := by decide +kernel
theorem dX12_level_37 : decode cX12_level 37 = .ok (.istore_n 3, 1) := by decide +kernel
theorem dX12_level_38 : decode cX12_level 38 = .ok (.iconst 0, 1) := by decide +kernel
theorem dX12_level_39 : decode cX12_level 39 = .ok (.istore 4, 2) := by decide +kernel
theorem dX12_level_41 : decode cX12_level 41 = .ok (.iconst 0, 1) := by decide +kernel
theorem dX12_level_42 : decode cX12_level 42 = .ok (.istore 5, 2) := by decide +kernel
theorem dX12_level_44 : decode cX12_level 44 = .ok (.iload 5, 2) := by decide +kernel
theorem dX12_level_46 : decode cX12_level 46 = .ok (.aload_n 0, 1) := by decide +kernel
theorem dX12_level_47 : decode cX12_level 47 = .ok (.getfield 220, 3) := by decide +kernel
theorem dX12_level_50 : decode cX12_level 50 = .ok (.if_icmp .ge 65, 3) := by decide +kernel
theorem dX12_level_53 : decode cX12_level 53 = .ok (.iload_n 1, 1) := by decide +kernel
theorem dX12_level_54 : decode cX12_level 54 = .ok (.ifCond .ne 12, 3) := by decide +kernel
theorem dX12_level_57 : decode cX12_level 57 = .ok (.aload_n 0, 1) := by decide +kernel
theorem dX12_level_58 : decode cX12_level 58 = .ok (.iload 5, 2) := by decide +kernel
theorem dX12_level_60 : decode cX12_level 60 = .ok (.invokevirtual 245, 3) := by decide +kernel
theorem dX12_level_63 : decode cX12_level 63 = .ok (.goto 16, 3) := by decide +kernel
theorem dX12_level_66 : decode cX12_level 66 = .ok (.aload_n 0, 1) := by decide +kernel
theorem dX12_level_67 : decode cX12_level 67 = .ok (.iload 5, 2) := by decide +kernel
theorem dX12_level_69 : decode cX12_level 69 = .ok (.aload_n 0, 1) := by decide +kernel
theorem dX12_level_70 : decode cX12_level 70 = .ok (.iload 5, 2) := by decide +kernel
theorem dX12_level_72 : decode cX12_level 72 = .ok (.iconst 1, 1) := by decide +kernel
theorem dX12_level_73 : decode cX12_level 73 = .ok (.invokevirtual 236, 3) := by decide +kernel
theorem dX12_level_76 : decode cX12_level 76 = .ok (.invokevirtual 239, 3) := by decide +kernel
theorem dX12_level_79 : decode cX12_level 79 = .ok (.istore 6, 2) := by decide +kernel
theorem dX12_level_81 : decode cX12_level 81 = .ok (.iload_n 3, 1) := by decide +kernel
theorem dX12_level_82 : decode cX12_level 82 = .ok (.aload_n 0, 1) := by decide +kernel
theorem dX12_level_83 : decode cX12_level 83 = .ok (.iload 5, 2) := by decide +kernel
theorem dX12_level_85 : decode cX12_level 85 = .ok (.iconst 1, 1) := by decide +kernel
theorem dX12_level_86 : decode cX12_level 86 = .ok (.invokevirtual 236, 3) := by decide +kernel
theorem dX12_level_89 : decode cX12_level 89 = .ok (.iload 6, 2) := by decide +kernel
theorem dX12_level_91 : decode cX12_level 91 = .ok (.imul, 1) := by decide +kernel
theorem dX12_level_92 : decode cX12_level 92 = .ok (.iadd, 1) := by decide +kernel
theorem dX12_level_93 : decode cX12_level 93 = .ok (.istore_n 3, 1) := by decide +kernel
theorem dX12_level_94 : decode cX12_level 94 = .ok (.iload 4, 2) := by decide +kernel
theorem dX12_level_96 : decode cX12_level 96 = .ok (.aload_n 0, 1) := by decide +kernel
theorem dX12_level_97 : decode cX12_level 97 = .ok (.iload 5, 2) := by decide +kernel
theorem dX12_level_99 : decode cX12_level 99 = .ok (.iconst 0, 1) := by decide +kernel
theorem dX12_level_100 : decode cX12_level 100 = .ok (.invokevirtual 236, 3) := by decide +kernel
theorem dX12_level_103 : decode cX12_level 103 = .ok (.iload 6, 2) := by decide +kernel
theorem dX12_level_105 : decode cX12_level 105 = .ok (.imul, 1) := by decide +kernel
theorem dX12_level_106 : decode cX12_level 106 = .ok (.iadd, 1) := by decide +kernel
theorem dX12_level_107 : decode cX12_level 107 = .ok (.istore 4, 2) := by decide +kernel
theorem dX12_level_109 : decode cX12_level 109 = .ok (.iinc 5 1, 3) := by decide +kernel
theorem dX12_level_112 : decode cX12_level 112 = .ok (.goto (-68), 3) := by decide +kernel
theorem dX12_level_115 : decode cX12_level 115 = .ok (.iload 4, 2) := by decide +kernel
theorem dX12_level_117 : decode cX12_level 117 = .ok (.ifCond .ne 11, 3) := by decide +kernel
theorem dX12_level_120 : decode cX12_level 120 = .ok (.aload_n 0, 1) := by decide +kernel
theorem dX12_level_121 : decode cX12_level 121 = .ok (.iconst 5, 1) := by decide +kernel
theorem dX12_level_122 : decode cX12_level 122 = .ok (.invokevirtual 213, 3) := by decide +kernel
theorem dX12_level_125 : decode cX12_level 125 = .ok (.goto 11, 3) := by decide +kernel
theorem dX12_level_128 : decode cX12_level 128 = .ok (.aload_n 0, 1) := by decide +kernel
theorem dX12_level_129 : decode cX12_level 129 = .ok (.iload_n 3, 1) := by decide +kernel
theorem dX12_level_130 : decode cX12_level 130 = .ok (.iload 4, 2) := by decide +kernel
theorem dX12_level_132 : decode cX12_level 132 = .ok (.iload_n 2, 1) := by decide +kernel
theorem dX12_level_133 : decode cX12_level 133 = .ok (.invokevirtual 321, 3) := by decide +kernel
theorem dX12_level_136 : decode cX12_level 136 = .ok (.ireturn, 1) := by decide +kernel
theorem dX12_share_0 : decode cX12_share 0 = .ok (.aload_n 0, 1) := by decide +kernel
theorem dX12_share_1 : decode cX12_share 1 = .ok (.iconst 0, 1) := by decide +kernel
theorem dX12_share_2 : decode cX12_share 2 = .ok (.putfield 73, 3) := by decide +kernel
theorem dX12_share_5 : decode cX12_share 5 = .ok (.aload_n 0, 1) := by decide +kernel
theorem dX12_share_6 : decode cX12_share 6 = .ok (.iload_n 1, 1) := by decide +kernel
theorem dX12_share_7 : decode cX12_share 7 = .ok (.invokevirtual 272, 3) := by decide +kernel
theorem dX12_share_10 : decode cX12_share 10 = .ok (.ifCond .eq 12, 3) := by decide +kernel
theorem dX12_share_13 : decode cX12_share 13 = .ok (.iload_n 2, 1) := by decide +kernel
theorem dX12_share_14 : decode cX12_share 14 = .ok (.iconst 0, 1) := by decide +kernel
theorem dX12_share_15 : decode cX12_share 15 = .ok (.iconst 1, 1) := by decide +kernel
theorem dX12_share_16 : decode cX12_share 16 = .ok (.invokestatic 94, 3) := by decide +kernel
theorem dX12_share_19 : decode cX12_share 19 = .ok (.ifCond .ne 9, 3) := by decide +kernel
theorem dX12_share_22 : decode cX12_share 22 = .ok (.aload_n 0, 1) := by decide +kernel
theorem dX12_share_23 : decode cX12_share 23 = .ok (.iconst 1, 1) := by decide +kernel
theorem dX12_share_24 : decode cX12_share 24 = .ok (.invokevirtual 213, 3) := by decide +kernel
theorem dX12_share_27 : decode cX12_share 27 = .ok (.ireturn, 1) := by decide +kernel
theorem dX12_share_28 : decode cX12_share 28 = .ok (.aload_n 0, 1) := by decide +kernel
theorem dX12_share_29 : decode cX12_share 29 = .ok (.invokevirtual 257, 3) := by decide +kernel
theorem dX12_share_32 : decode cX12_share 32 = .ok (.ifCond .ne 11, 3) := by decide +kernel
theorem dX12_share_35 : decode cX12_share 35 = .ok (.aload_n 0, 1) := by decide +kernel
theorem dX12_share_36 : decode cX12_share 36 = .ok (.iconst 5, 1) := by decide +kernel
theorem dX12_share_37 : decode cX12_share 37 = .ok (.invokevirtual 213, 3) := by decide +kernel
theorem dX12_share_40 : decode cX12_share 40 = .ok (.goto 24, 3) := by decide +kernel
theorem dX12_share_43 : decode cX12_share 43 = .ok (.aload_n 0, 1) := by decide +kernel
theorem dX12_share_44 : decode cX12_share 44 = .ok (.aload_n 0, 1) := by decide +kernel
theorem dX12_share_45 : decode cX12_share 45 = .ok (.iload_n 1, 1) := by decide +kernel
theorem dX12_share_46 : decode cX12_share 46 = .ok (.iconst 1, 1) := by decide +kernel
theorem dX12_share_47 : decode cX12_share 47 = .ok (.invokevirtual 236, 3) := by decide +kernel
theorem dX12_share_50 : decode cX12_share 50 = .ok (.aload_n 0, 1) := by decide +kernel
theorem dX12_share_51 : decode cX12_share 51 = .ok (.iload_n 1, 1) := by decide +kernel
theorem dX12_share_52 : decode cX12_share 52 = .ok (.invokevirtual 245, 3) := by decide +kernel
theorem dX12_share_55 : decode cX12_share 55 = .ok (.imul, 1) := by decide +kernel
theorem dX12_share_56 : decode cX12_share 56 = .ok (.aload_n 0, 1) := by decide +kernel
theorem dX12_share_57 : decode cX12_share 57 = .ok (.invokevirtual 257, 3) := by decide +kernel
theorem dX12_share_60 : decode cX12_share 60 = .ok (.iload_n 2, 1) := by decide +kernel
theorem dX12_share_61 : decode cX12_share 61 = .ok (.invokevirtual 321, 3) := by decide +kernel
theorem dX12_share_64 : decode cX12_share 64 = .ok (.ireturn, 1) := by decide +kernel
theorem dX12_gains_0 : decode cX12_gains 0 = .ok (.aload_n 0, 1) := by decide +kernel
theorem dX12_gains_1 : decode cX12_gains 1 = .ok (.iconst 0, 1) := by decide +kernel
theorem dX12_gains_2 : decode cX12_gains 2 = .ok (.putfield 73, 3) := by decide +kernel
theorem dX12_gains_5 : decode cX12_gains 5 = .ok (.aload_n 0, 1) := by decide +kernel
theorem dX12_gains_6 : decode cX12_gains 6 = .ok (.iload_n 1, 1) := by decide +kernel
theorem dX12_gains_7 : decode cX12_gains 7 = .ok (.invokevirtual 272, 3) := by decide +kernel
theorem dX12_gains_10 : decode cX12_gains 10 = .ok (.ifCond .ne 9, 3) := by decide +kernel
theorem dX12_gains_13 : decode cX12_gains 13 = .ok (.aload_n 0, 1) := by decide +kernel
theorem dX12_gains_14 : decode cX12_gains 14 = .ok (.iconst 1, 1) := by decide +kernel
theorem dX12_gains_15 : decode cX12_gains 15 = .ok (.invokevirtual 213, 3) := by decide +kernel
theorem dX12_gains_18 : decode cX12_gains 18 = .ok (.ireturn, 1) := by decide +kernel
theorem dX12_gains_19 : decode cX12_gains 19 = .ok (.aload_n 0, 1) := by decide +kernel
theorem dX12_gains_20 : decode cX12_gains 20 = .ok (.iload_n 1, 1) := by decide +kernel
theorem dX12_gains_21 : decode cX12_gains 21 = .ok (.iconst 5, 1) := by decide +kernel
theorem dX12_gains_22 : decode cX12_gains 22 = .ok (.invokevirtual 236, 3) := by decide +kernel
theorem dX12_gains_25 : decode cX12_gains 25 = .ok (.istore_n 2, 1) := by decide +kernel
theorem dX12_gains_26 : decode cX12_gains 26 = .ok (.aload_n 0, 1) := by decide +kernel
theorem dX12_gains_27 : decode cX12_gains 27 = .ok (.invokevirtual 260, 3) := by decide +kernel
theorem dX12_gains_30 : decode cX12_gains 30 = .ok (.istore_n 3, 1) := by decide +kernel
theorem dX12_gains_31 : decode cX12_gains 31 = .ok (.aload_n 0, 1) := by decide +kernel
theorem dX12_gains_32 : decode cX12_gains 32 = .ok (.iload_n 1, 1) := by decide +kernel
theorem dX12_gains_33 : decode cX12_gains 33 = .ok (.bipush 6, 2) := by decide +kernel
theorem dX12_gains_35 : decode cX12_gains 35 = .ok (.invokevirtual 236, 3) := by decide +kernel
theorem dX12_gains_38 : decode cX12_gains 38 = .ok (.iload_n 2, 1) := by decide +kernel
theorem dX12_gains_39 : decode cX12_gains 39 = .ok (.if_icmp .le 21, 3) := by decide +kernel
theorem dX12_gains_42 : decode cX12_gains 42 = .ok (.aload_n 0, 1) := by decide +kernel
theorem dX12_gains_43 : decode cX12_gains 43 = .ok (.getfield 17, 3) := by decide +kernel
theorem dX12_gains_46 : decode cX12_gains 46 = .ok (.bipush 7, 2) := by decide +kernel
theorem dX12_gains_48 : decode cX12_gains 48 = .ok (.iload_n 1, 1) := by decide +kernel
theorem dX12_gains_49 : decode cX12_gains 49 = .ok (.imul, 1) := by decide +kernel
theorem dX12_gains_50 : decode cX12_gains 50 = .ok (.iconst 5, 1) := by decide +kernel
theorem dX12_gains_51 : decode cX12_gains 51 = .ok (.iadd, 1) := by decide +kernel
theorem dX12_gains_52 : decode cX12_gains 52 = .ok (.aload_n 0, 1) := by decide +kernel
theorem dX12_gains_53 : decode cX12_gains 53 = .ok (.iload_n 1, 1) := by decide +kernel
theorem dX12_gains_54 : decode cX12_gains 54 = .ok (.bipush 6, 2) := by decide +kernel
theorem dX12_gains_56 : decode cX12_gains 56 = .ok (.invokevirtual 236, 3) := by decide +kernel
theorem dX12_gains_59 : decode cX12_gains 59 = .ok (.iastore, 1) := by decide +kernel
theorem dX12_gains_60 : decode cX12_gains 60 = .ok (.aload_n 0, 1) := by decide +kernel
theorem dX12_gains_61 : decode cX12_gains 61 = .ok (.invokevirtual 260, 3) := by decide +kernel
theorem dX12_gains_64 : decode cX12_gains 64 = .ok (.istore 4, 2) := by decide +kernel
theorem dX12_gains_66 : decode cX12_gains 66 = .ok (.aload_n 0, 1) := by decide +kernel
theorem dX12_gains_67 : decode cX12_gains 67 = .ok (.getfield 17, 3) := by decide +kernel
theorem dX12_gains_70 : decode cX12_gains 70 = .ok (.bipush 7, 2) := by decide +kernel
theorem dX12_gains_72 : decode cX12_gains 72 = .ok (.iload_n 1, 1) := by decide +kernel
theorem dX12_gains_73 : decode cX12_gains 73 = .ok (.imul, 1) := by decide +kernel
theorem dX12_gains_74 : decode cX12_gains 74 = .ok (.iconst 5, 1) := by decide +kernel
theorem dX12_gains_75 : decode cX12_gains 75 = .ok (.iadd, 1) := by decide +kernel
theorem dX12_gains_76 : decode cX12_gains 76 = .ok (.iload_n 2, 1) := by decide +kernel
theorem dX12_gains_77 : decode cX12_gains 77 = .ok (.iastore, 1) := by decide +kernel
theorem dX12_gains_78 : decode cX12_gains 78 = .ok (.aload_n 0, 1) := by decide +kernel
theorem dX12_gains_79 : decode cX12_gains 79 = .ok (.iload 4, 2) := by decide +kernel
theorem dX12_gains_81 : decode cX12_gains 81 = .ok (.iload_n 3, 1) := by decide +kernel
theorem dX12_gains_82 : decode cX12_gains 82 = .ok (.isub, 1) := by decide +kernel
theorem dX12_gains_83 : decode cX12_gains 83 = .ok (.invokevirtual 233, 3) := by decide +kernel
theorem dX12_gains_86 : decode cX12_gains 86 = .ok (.ireturn, 1) := by decide +kernel
theorem dX12_trades_0 : decode cX12_trades 0 = .ok (.aload_n 0, 1) := by decide +kernel
theorem dX12_trades_1 : decode cX12_trades 1 = .ok (.iconst (-1), 1) := by decide +kernel
theorem dX12_trades_2 : decode cX12_trades 2 = .ok (.putfield 325, 3) := by decide +kernel
theorem dX12_trades_5 : decode cX12_trades 5 = .ok (.aload_n 0, 1) := by decide +kernel
theorem dX12_trades_6 : decode cX12_trades 6 = .ok (.invokevirtual 260, 3) := by decide +kernel
theorem dX12_trades_9 : decode cX12_trades 9 = .ok (.aload_n 0, 1) := by decide +kernel
theorem dX12_trades_10 : decode cX12_trades 10 = .ok (.invokevirtual 257, 3) := by decide +kernel
theorem dX12_trades_13 : decode cX12_trades 13 = .ok (.isub, 1) := by decide +kernel
theorem dX12_trades_14 : decode cX12_trades 14 = .ok (.istore_n 1, 1) := by decide +kernel
theorem dX12_trades_15 : decode cX12_trades 15 = .ok (.iconst 0, 1) := by decide +kernel
theorem dX12_trades_16 : decode cX12_trades 16 = .ok (.istore_n 2, 1) := by decide +kernel
theorem dX12_trades_17 : decode cX12_trades 17 = .ok (.iload_n 2, 1) := by decide +kernel
theorem dX12_trades_18 : decode cX12_trades 18 = .ok (.aload_n 0, 1) := by decide +kernel
theorem dX12_trades_19 : decode cX12_trades 19 = .ok (.getfield 220, 3) := by decide +kernel
theorem dX12_trades_22 : decode cX12_trades 22 = .ok (.if_icmp .ge 198, 3) := by decide +kernel
theorem dX12_trades_25 : decode cX12_trades 25 = .ok (.iconst 0, 1) := by decide +kernel
theorem dX12_trades_26 : decode cX12_trades 26 = .ok (.istore_n 3, 1) := by decide +kernel
theorem dX12_trades_27 : decode cX12_trades 27 = .ok (.iload_n 3, 1) := by decide +kernel
theorem dX12_trades_28 : decode cX12_trades 28 = .ok (.aload_n 0, 1) := by decide +kernel
theorem dX12_trades_29 : decode cX12_trades 29 = .ok (.getfield 220, 3) := by decide +kernel
theorem dX12_trades_32 : decode cX12_trades 32 = .ok (.if_icmp .ge 182, 3) := by decide +kernel
theorem dX12_trades_35 : decode cX12_trades 35 = .ok (.iload_n 3, 1) := by decide +kernel
theorem dX12_trades_36 : decode cX12_trades 36 = .ok (.iload_n 2, 1) := by decide +kernel
theorem dX12_trades_37 : decode cX12_trades 37 = .ok (.if_icmp .eq 171, 3) := by decide +kernel
theorem dX12_trades_40 : decode cX12_trades 40 = .ok (.aload_n 0, 1) := by decide +kernel
theorem dX12_trades_41 : decode cX12_trades 41 = .ok (.iload_n 2, 1) := by decide +kernel
theorem dX12_trades_42 : decode cX12_trades 42 = .ok (.iconst 1, 1) := by decide +kernel
theorem dX12_trades_43 : decode cX12_trades 43 = .ok (.invokevirtual 236, 3) := by decide +kernel
theorem dX12_trades_46 : decode cX12_trades 46 = .ok (.bipush 20, 2) := by decide +kernel
theorem dX12_trades_48 : decode cX12_trades 48 = .ok (.if_icmp .ne 6, 3) := by decide +kernel
theorem dX12_trades_51 : decode cX12_trades 51 = .ok (.goto 157, 3) := by decide +kernel
theorem dX12_trades_54 : decode cX12_trades 54 = .ok (.iconst 0, 1) := by decide +kernel
theorem dX12_trades_55 : decode cX12_trades 55 = .ok (.istore 4, 2) := by decide +kernel
theorem dX12_trades_57 : decode cX12_trades 57 = .ok (.iload 4, 2) := by decide +kernel
theorem dX12_trades_59 : decode cX12_trades 59 = .ok (.aload_n 0, 1) := by decide +kernel
theorem dX12_trades_60 : decode cX12_trades 60 = .ok (.iload_n 3, 1) := by decide +kernel
theorem dX12_trades_61 : decode cX12_trades 61 = .ok (.iconst 1, 1) := by decide +kernel
theorem dX12_trades_62 : decode cX12_trades 62 = .ok (.invokevirtual 236, 3) := by decide +kernel
theorem dX12_trades_65 : decode cX12_trades 65 = .ok (.if_icmp .gt 27, 3) := by decide +kernel
theorem dX12_trades_68 : decode cX12_trades 68 = .ok (.aload_n 0, 1) := by decide +kernel
theorem dX12_trades_69 : decode cX12_trades 69 = .ok (.iload_n 2, 1) := by decide +kernel
theorem dX12_trades_70 : decode cX12_trades 70 = .ok (.invokevirtual 245, 3) := by decide +kernel
theorem dX12_trades_73 : decode cX12_trades 73 = .ok (.iload 4, 2) := by decide +kernel
theorem dX12_trades_75 : decode cX12_trades 75 = .ok (.aload_n 0, 1) := by decide +kernel
theorem dX12_trades_76 : decode cX12_trades 76 = .ok (.iload_n 3, 1) := by decide +kernel
theorem dX12_trades_77 : decode cX12_trades 77 = .ok (.invokevirtual 245, 3) := by decide +kernel
theorem dX12_trades_80 : decode cX12_trades 80 = .ok (.imul, 1) := by decide +kernel
theorem dX12_trades_81 : decode cX12_trades 81 = .ok (.isub, 1) := by decide +kernel
theorem dX12_trades_82 : decode cX12_trades 82 = .ok (.iload_n 1, 1) := by decide +kernel
theorem dX12_trades_83 : decode cX12_trades 83 = .ok (.if_icmp .le 9, 3) := by decide +kernel
theorem dX12_trades_86 : decode cX12_trades 86 = .ok (.iinc 4 1, 3) := by decide +kernel
theorem dX12_trades_89 : decode cX12_trades 89 = .ok (.goto (-32), 3) := by decide +kernel
theorem dX12_trades_92 : decode cX12_trades 92 = .ok (.iload 4, 2) := by decide +kernel
theorem dX12_trades_94 : decode cX12_trades 94 = .ok (.aload_n 0, 1) := by decide +kernel
theorem dX12_trades_95 : decode cX12_trades 95 = .ok (.iload_n 3, 1) := by decide +kernel
theorem dX12_trades_96 : decode cX12_trades 96 = .ok (.iconst 1, 1) := by decide +kernel
theorem dX12_trades_97 : decode cX12_trades 97 = .ok (.invokevirtual 236, 3) := by decide +kernel
theorem dX12_trades_100 : decode cX12_trades 100 = .ok (.if_icmp .le 6, 3) := by decide +kernel
theorem dX12_trades_103 : decode cX12_trades 103 = .ok (.goto 105, 3) := by decide +kernel
theorem dX12_trades_106 : decode cX12_trades 106 = .ok (.aload_n 0, 1) := by decide +kernel
theorem dX12_trades_107 : decode cX12_trades 107 = .ok (.iconst 0, 1) := by decide +kernel
theorem dX12_trades_108 : decode cX12_trades 108 = .ok (.invokevirtual 328, 3) := by decide +kernel
theorem dX12_trades_111 : decode cX12_trades 111 = .ok (.aload_n 0, 1) := by decide +kernel
theorem dX12_trades_112 : decode cX12_trades 112 = .ok (.iload_n 2, 1) := by decide +kernel
theorem dX12_trades_113 : decode cX12_trades 113 = .ok (.aload_n 0, 1) := by decide +kernel
theorem dX12_trades_114 : decode cX12_trades 114 = .ok (.iload_n 2, 1) := by decide +kernel
theorem dX12_trades_115 : decode cX12_trades 115 = .ok (.iconst 1, 1) := by decide +kernel
theorem dX12_trades_116 : decode cX12_trades 116 = .ok (.invokevirtual 236, 3) := by decide +kernel
theorem dX12_trades_119 : decode cX12_trades 119 = .ok (.invokevirtual 242, 3) := by decide +kernel
theorem dX12_trades_122 : decode cX12_trades 122 = .ok (.isub, 1) := by decide +kernel
theorem dX12_trades_123 : decode cX12_trades 123 = .ok (.aload_n 0, 1) := by decide +kernel
theorem dX12_trades_124 : decode cX12_trades 124 = .ok (.iload_n 2, 1) := by decide +kernel
theorem dX12_trades_125 : decode cX12_trades 125 = .ok (.aload_n 0, 1) := by decide +kernel
theorem dX12_trades_126 : decode cX12_trades 126 = .ok (.iload_n 2, 1) := by decide +kernel
theorem dX12_trades_127 : decode cX12_trades 127 = .ok (.iconst 1, 1) := by decide +kernel
theorem dX12_trades_128 : decode cX12_trades 128 = .ok (.invokevirtual 236, 3) := by decide +kernel
theorem dX12_trades_131 : decode cX12_trades 131 = .ok (.iconst 1, 1) := by decide +kernel
theorem dX12_trades_132 : decode cX12_trades 132 = .ok (.iadd, 1) := by decide +kernel
theorem dX12_trades_133 : decode cX12_trades 133 = .ok (.invokevirtual 242, 3) := by decide +kernel
theorem dX12_trades_136 : decode cX12_trades 136 = .ok (.iadd, 1) := by decide +kernel
theorem dX12_trades_137 : decode cX12_trades 137 = .ok (.aload_n 0, 1) := by decide +kernel
theorem dX12_trades_138 : decode cX12_trades 138 = .ok (.iload_n 3, 1) := by decide +kernel
theorem dX12_trades_139 : decode cX12_trades 139 = .ok (.aload_n 0, 1) := by decide +kernel
theorem dX12_trades_140 : decode cX12_trades 140 = .ok (.iload_n 3, 1) := by decide +kernel
theorem dX12_trades_141 : decode cX12_trades 141 = .ok (.iconst 1, 1) := by decide +kernel
theorem dX12_trades_142 : decode cX12_trades 142 = .ok (.invokevirtual 236, 3) := by decide +kernel
theorem dX12_trades_145 : decode cX12_trades 145 = .ok (.invokevirtual 242, 3) := by decide +kernel
theorem dX12_trades_148 : decode cX12_trades 148 = .ok (.isub, 1) := by decide +kernel
theorem dX12_trades_149 : decode cX12_trades 149 = .ok (.aload_n 0, 1) := by decide +kernel
theorem dX12_trades_150 : decode cX12_trades 150 = .ok (.iload_n 3, 1) := by decide +kernel
theorem dX12_trades_151 : decode cX12_trades 151 = .ok (.aload_n 0, 1) := by decide +kernel
theorem dX12_trades_152 : decode cX12_trades 152 = .ok (.iload_n 3, 1) := by decide +kernel
theorem dX12_trades_153 : decode cX12_trades 153 = .ok (.iconst 1, 1) := by decide +kernel
theorem dX12_trades_154 : decode cX12_trades 154 = .ok (.invokevirtual 236, 3) := by decide +kernel
theorem dX12_trades_157 : decode cX12_trades 157 = .ok (.iload 4, 2) := by decide +kernel
theorem dX12_trades_159 : decode cX12_trades 159 = .ok (.isub, 1) := by decide +kernel
theorem dX12_trades_160 : decode cX12_trades 160 = .ok (.invokevirtual 242, 3) := by decide +kernel
theorem dX12_trades_163 : decode cX12_trades 163 = .ok (.iadd, 1) := by decide +kernel
theorem dX12_trades_164 : decode cX12_trades 164 = .ok (.istore 5, 2) := by decide +kernel
theorem dX12_trades_166 : decode cX12_trades 166 = .ok (.aload_n 0, 1) := by decide +kernel
theorem dX12_trades_167 : decode cX12_trades 167 = .ok (.getfield 325, 3) := by decide +kernel
theorem dX12_trades_170 : decode cX12_trades 170 = .ok (.iconst (-1), 1) := by decide +kernel
theorem dX12_trades_171 : decode cX12_trades 171 = .ok (.if_icmp .eq 15, 3) := by decide +kernel
theorem dX12_trades_174 : decode cX12_trades 174 = .ok (.iload 5, 2) := by decide +kernel
theorem dX12_trades_176 : decode cX12_trades 176 = .ok (.aload_n 0, 1) := by decide +kernel
theorem dX12_trades_177 : decode cX12_trades 177 = .ok (.getfield 331, 3) := by decide +kernel
theorem dX12_trades_180 : decode cX12_trades 180 = .ok (.if_icmp .gt 6, 3) := by decide +kernel
theorem dX12_trades_183 : decode cX12_trades 183 = .ok (.goto 25, 3) := by decide +kernel
theorem dX12_trades_186 : decode cX12_trades 186 = .ok (.aload_n 0, 1) := by decide +kernel
theorem dX12_trades_187 : decode cX12_trades 187 = .ok (.iload 5, 2) := by decide +kernel
theorem dX12_trades_189 : decode cX12_trades 189 = .ok (.putfield 331, 3) := by decide +kernel
theorem dX12_trades_192 : decode cX12_trades 192 = .ok (.aload_n 0, 1) := by decide +kernel
theorem dX12_trades_193 : decode cX12_trades 193 = .ok (.iload_n 2, 1) := by decide +kernel
theorem dX12_trades_194 : decode cX12_trades 194 = .ok (.putfield 325, 3) := by decide +kernel
theorem dX12_trades_197 : decode cX12_trades 197 = .ok (.aload_n 0, 1) := by decide +kernel
theorem dX12_trades_198 : decode cX12_trades 198 = .ok (.iload_n 3, 1) := by decide +kernel
theorem dX12_trades_199 : decode cX12_trades 199 = .ok (.putfield 334, 3) := by decide +kernel
theorem dX12_trades_202 : decode cX12_trades 202 = .ok (.aload_n 0, 1) := by decide +kernel
theorem dX12_trades_203 : decode cX12_trades 203 = .ok (.iload 4, 2) := by decide +kernel
theorem dX12_trades_205 : decode cX12_trades 205 = .ok (.putfield 337, 3) := by decide +kernel
theorem dX12_trades_208 : decode cX12_trades 208 = .ok (.iinc 3 1, 3) := by decide +kernel
theorem dX12_trades_211 : decode cX12_trades 211 = .ok (.goto (-184), 3) := by decide +kernel
theorem dX12_trades_214 : decode cX12_trades 214 = .ok (.iinc 2 1, 3) := by decide +kernel
theorem dX12_trades_217 : decode cX12_trades 217 = .ok (.goto (-200), 3) := by decide +kernel
theorem dX12_trades_220 : decode cX12_trades 220 = .ok (.aload_n 0, 1) := by decide +kernel
theorem dX12_trades_221 : decode cX12_trades 221 = .ok (.getfield 325, 3) := by decide +kernel
theorem dX12_trades_224 : decode cX12_trades 224 = .ok (.iconst (-1), 1) := by decide +kernel
theorem dX12_trades_225 : decode cX12_trades 225 = .ok (.if_icmp .eq 7, 3) := by decide +kernel
theorem dX12_trades_228 : decode cX12_trades 228 = .ok (.iconst 1, 1) := by decide +kernel
theorem dX12_trades_229 : decode cX12_trades 229 = .ok (.goto 4, 3) := by decide +kernel
theorem dX12_trades_232 : decode cX12_trades 232 = .ok (.iconst 0, 1) := by decide +kernel
theorem dX12_trades_233 : decode cX12_trades 233 = .ok (.ireturn, 1) := by decide +kernel
theorem dX12_trade_0 : decode cX12_trade 0 = .ok (.aload_n 0, 1) := by decide +kernel
theorem dX12_trade_1 : decode cX12_trade 1 = .ok (.iconst 0, 1) := by decide +kernel
theorem dX12_trade_2 : decode cX12_trade 2 = .ok (.putfield 73, 3) := by decide +kernel
theorem dX12_trade_5 : decode cX12_trade 5 = .ok (.aload_n 0, 1) := by decide +kernel
theorem dX12_trade_6 : decode cX12_trade 6 = .ok (.getfield 229, 3) := by decide +kernel
theorem dX12_trade_9 : decode cX12_trade 9 = .ok (.ifCond .eq 12, 3) := by decide +kernel
theorem dX12_trade_12 : decode cX12_trade 12 = .ok (.iload_n 1, 1) := by decide +kernel
theorem dX12_trade_13 : decode cX12_trade 13 = .ok (.iconst 0, 1) := by decide +kernel
theorem dX12_trade_14 : decode cX12_trade 14 = .ok (.iconst 3, 1) := by decide +kernel
theorem dX12_trade_15 : decode cX12_trade 15 = .ok (.invokestatic 94, 3) := by decide +kernel
theorem dX12_trade_18 : decode cX12_trade 18 = .ok (.ifCond .ne 9, 3) := by decide +kernel
theorem dX12_trade_21 : decode cX12_trade 21 = .ok (.aload_n 0, 1) := by decide +kernel
theorem dX12_trade_22 : decode cX12_trade 22 = .ok (.iconst 1, 1) := by decide +kernel
theorem dX12_trade_23 : decode cX12_trade 23 = .ok (.invokevirtual 213, 3) := by decide +kernel
theorem dX12_trade_26 : decode cX12_trade 26 = .ok (.ireturn, 1) := by decide +kernel
theorem dX12_trade_27 : decode cX12_trade 27 = .ok (.aload_n 0, 1) := by decide +kernel
theorem dX12_trade_28 : decode cX12_trade 28 = .ok (.invokevirtual 340, 3) := by decide +kernel
theorem dX12_trade_31 : decode cX12_trade 31 = .ok (.ifCond .ne 10, 3) := by decide +kernel
theorem dX12_trade_34 : decode cX12_trade 34 = .ok (.aload_n 0, 1) := by decide +kernel
theorem dX12_trade_35 : decode cX12_trade 35 = .ok (.bipush 6, 2) := by decide +kernel
theorem dX12_trade_37 : decode cX12_trade 37 = .ok (.invokevirtual 213, 3) := by decide +kernel
theorem dX12_trade_40 : decode cX12_trade 40 = .ok (.ireturn, 1) := by decide +kernel
theorem dX12_trade_41 : decode cX12_trade 41 = .ok (.aload_n 0, 1) := by decide +kernel
theorem dX12_trade_42 : decode cX12_trade 42 = .ok (.iload_n 1, 1) := by decide +kernel
theorem dX12_trade_43 : decode cX12_trade 43 = .ok (.ifCond .ne 10, 3) := by decide +kernel
theorem dX12_trade_46 : decode cX12_trade 46 = .ok (.aload_n 0, 1) := by decide +kernel
theorem dX12_trade_47 : decode cX12_trade 47 = .ok (.getfield 331, 3) := by decide +kernel
theorem dX12_trade_50 : decode cX12_trade 50 = .ok (.goto 31, 3) := by decide +kernel
theorem dX12_trade_53 : decode cX12_trade 53 = .ok (.iload_n 1, 1) := by decide +kernel
theorem dX12_trade_54 : decode cX12_trade 54 = .ok (.iconst 1, 1) := by decide +kernel
theorem dX12_trade_55 : decode cX12_trade 55 = .ok (.if_icmp .ne 10, 3) := by decide +kernel
theorem dX12_trade_58 : decode cX12_trade 58 = .ok (.aload_n 0, 1) := by decide +kernel
theorem dX12_trade_59 : decode cX12_trade 59 = .ok (.getfield 325, 3) := by decide +kernel
theorem dX12_trade_62 : decode cX12_trade 62 = .ok (.goto 19, 3) := by decide +kernel
theorem dX12_trade_65 : decode cX12_trade 65 = .ok (.iload_n 1, 1) := by decide +kernel
theorem dX12_trade_66 : decode cX12_trade 66 = .ok (.iconst 2, 1) := by decide +kernel
theorem dX12_trade_67 : decode cX12_trade 67 = .ok (.if_icmp .ne 10, 3) := by decide +kernel
theorem dX12_trade_70 : decode cX12_trade 70 = .ok (.aload_n 0, 1) := by decide +kernel
theorem dX12_trade_71 : decode cX12_trade 71 = .ok (.getfield 334, 3) := by decide +kernel
theorem dX12_trade_74 : decode cX12_trade 74 = .ok (.goto 7, 3) := by decide +kernel
theorem dX12_trade_77 : decode cX12_trade 77 = .ok (.aload_n 0, 1) := by decide +kernel
theorem dX12_trade_78 : decode cX12_trade 78 = .ok (.getfield 337, 3) := by decide +kernel
theorem dX12_trade_81 : decode cX12_trade 81 = .ok (.invokevirtual 233, 3) := by decide +kernel
theorem dX12_trade_84 : decode cX12_trade 84 = .ok (.ireturn, 1) := by decide +kernel
theorem dX12_writes_0 : decode cX12_writes 0 = .ok (.aload_n 0, 1) := by decide +kernel
theorem dX12_writes_1 : decode cX12_writes 1 = .ok (.getfield 70, 3) := by decide +kernel
theorem dX12_writes_4 : decode cX12_writes 4 = .ok (.aload_n 0, 1) := by decide +kernel
theorem dX12_writes_5 : decode cX12_writes 5 = .ok (.getfield 343, 3) := by decide +kernel
theorem dX12_writes_8 : decode cX12_writes 8 = .ok (.iload_n 1, 1) := by decide +kernel
theorem dX12_writes_9 : decode cX12_writes 9 = .ok (.iastore, 1) := by decide +kernel
theorem dX12_writes_10 : decode cX12_writes 10 = .ok (.aload_n 0, 1) := by decide +kernel
theorem dX12_writes_11 : decode cX12_writes 11 = .ok (.dup, 1) := by decide +kernel
theorem dX12_writes_12 : decode cX12_writes 12 = .ok (.getfield 343, 3) := by decide +kernel
theorem dX12_writes_15 : decode cX12_writes 15 = .ok (.iconst 1, 1) := by decide +kernel
theorem dX12_writes_16 : decode cX12_writes 16 = .ok (.iadd, 1) := by decide +kernel
theorem dX12_writes_17 : decode cX12_writes 17 = .ok (.putfield 343, 3) := by decide +kernel
theorem dX12_writes_20 : decode cX12_writes 20 = .ok (.return_, 1) := by decide +kernel
theorem dX12_write_0 : decode cX12_write 0 = .ok (.aload_n 0, 1) := by decide +kernel
theorem dX12_write_1 : decode cX12_write 1 = .ok (.iconst 0, 1) := by decide +kernel
theorem dX12_write_2 : decode cX12_write 2 = .ok (.putfield 73, 3) := by decide +kernel
theorem dX12_write_5 : decode cX12_write 5 = .ok (.aload_n 0, 1) := by decide +kernel
theorem dX12_write_6 : decode cX12_write 6 = .ok (.getfield 229, 3) := by decide +kernel
theorem dX12_write_9 : decode cX12_write 9 = .ok (.ifCond .ne 9, 3) := by decide +kernel
theorem dX12_write_12 : decode cX12_write 12 = .ok (.aload_n 0, 1) := by decide +kernel
theorem dX12_write_13 : decode cX12_write 13 = .ok (.iconst 1, 1) := by decide +kernel
theorem dX12_write_14 : decode cX12_write 14 = .ok (.invokevirtual 213, 3) := by decide +kernel
theorem dX12_write_17 : decode cX12_write 17 = .ok (.ireturn, 1) := by decide +kernel
theorem dX12_write_18 : decode cX12_write 18 = .ok (.aload_n 0, 1) := by decide +kernel
theorem dX12_write_19 : decode cX12_write 19 = .ok (.iconst 0, 1) := by decide +kernel
theorem dX12_write_20 : decode cX12_write 20 = .ok (.putfield 343, 3) := by decide +kernel
theorem dX12_write_23 : decode cX12_write 23 = .ok (.iconst 0, 1) := by decide +kernel
theorem dX12_write_24 : decode cX12_write 24 = .ok (.istore_n 1, 1) := by decide +kernel
theorem dX12_write_25 : decode cX12_write 25 = .ok (.iload_n 1, 1) := by decide +kernel
theorem dX12_write_26 : decode cX12_write 26 = .ok (.aload_n 0, 1) := by decide +kernel
theorem dX12_write_27 : decode cX12_write 27 = .ok (.getfield 220, 3) := by decide +kernel
theorem dX12_write_30 : decode cX12_write 30 = .ok (.if_icmp .ge 62, 3) := by decide +kernel
theorem dX12_write_33 : decode cX12_write 33 = .ok (.iload_n 1, 1) := by decide +kernel
theorem dX12_write_34 : decode cX12_write 34 = .ok (.ifCond .le 9, 3) := by decide +kernel
theorem dX12_write_37 : decode cX12_write 37 = .ok (.aload_n 0, 1) := by decide +kernel
theorem dX12_write_38 : decode cX12_write 38 = .ok (.bipush 44, 2) := by decide +kernel
theorem dX12_write_40 : decode cX12_write 40 = .ok (.invokevirtual 346, 3) := by decide +kernel
theorem dX12_write_43 : decode cX12_write 43 = .ok (.aload_n 0, 1) := by decide +kernel
theorem dX12_write_44 : decode cX12_write 44 = .ok (.iload_n 1, 1) := by decide +kernel
theorem dX12_write_45 : decode cX12_write 45 = .ok (.iconst 1, 1) := by decide +kernel
theorem dX12_write_46 : decode cX12_write 46 = .ok (.invokevirtual 236, 3) := by decide +kernel
theorem dX12_write_49 : decode cX12_write 49 = .ok (.bipush 9, 2) := by decide +kernel
theorem dX12_write_51 : decode cX12_write 51 = .ok (.if_icmp .le 19, 3) := by decide +kernel
theorem dX12_write_54 : decode cX12_write 54 = .ok (.aload_n 0, 1) := by decide +kernel
theorem dX12_write_55 : decode cX12_write 55 = .ok (.bipush 48, 2) := by decide +kernel
theorem dX12_write_57 : decode cX12_write 57 = .ok (.aload_n 0, 1) := by decide +kernel
theorem dX12_write_58 : decode cX12_write 58 = .ok (.iload_n 1, 1) := by decide +kernel
theorem dX12_write_59 : decode cX12_write 59 = .ok (.iconst 1, 1) := by decide +kernel
theorem dX12_write_60 : decode cX12_write 60 = .ok (.invokevirtual 236, 3) := by decide +kernel
theorem dX12_write_63 : decode cX12_write 63 = .ok (.bipush 10, 2) := by decide +kernel
theorem dX12_write_65 : decode cX12_write 65 = .ok (.idiv, 1) := by decide +kernel
theorem dX12_write_66 : decode cX12_write 66 = .ok (.iadd, 1) := by decide +kernel
theorem dX12_write_67 : decode cX12_write 67 = .ok (.invokevirtual 346, 3) := by decide +kernel
theorem dX12_write_70 : decode cX12_write 70 = .ok (.aload_n 0, 1) := by decide +kernel
theorem dX12_write_71 : decode cX12_write 71 = .ok (.bipush 48, 2) := by decide +kernel
theorem dX12_write_73 : decode cX12_write 73 = .ok (.aload_n 0, 1) := by decide +kernel
theorem dX12_write_74 : decode cX12_write 74 = .ok (.iload_n 1, 1) := by decide +kernel
theorem dX12_write_75 : decode cX12_write 75 = .ok (.iconst 1, 1) := by decide +kernel
theorem dX12_write_76 : decode cX12_write 76 = .ok (.invokevirtual 236, 3) := by decide +kernel
theorem dX12_write_79 : decode cX12_write 79 = .ok (.bipush 10, 2) := by decide +kernel
theorem dX12_write_81 : decode cX12_write 81 = .ok (.irem, 1) := by decide +kernel
theorem dX12_write_82 : decode cX12_write 82 = .ok (.iadd, 1) := by decide +kernel
theorem dX12_write_83 : decode cX12_write 83 = .ok (.invokevirtual 346, 3) := by decide +kernel
theorem dX12_write_86 : decode cX12_write 86 = .ok (.iinc 1 1, 3) := by decide +kernel
theorem dX12_write_89 : decode cX12_write 89 = .ok (.goto (-64), 3) := by decide +kernel
theorem dX12_write_92 : decode cX12_write 92 = .ok (.aload_n 0, 1) := by decide +kernel
theorem dX12_write_93 : decode cX12_write 93 = .ok (.aload_n 0, 1) := by decide +kernel
theorem dX12_write_94 : decode cX12_write 94 = .ok (.getfield 343, 3) := by decide +kernel
theorem dX12_write_97 : decode cX12_write 97 = .ok (.invokevirtual 233, 3) := by decide +kernel
theorem dX12_write_100 : decode cX12_write 100 = .ok (.ireturn, 1) := by decide +kernel
theorem dX12_octet_0 : decode cX12_octet 0 = .ok (.aload_n 0, 1) := by decide +kernel
theorem dX12_octet_1 : decode cX12_octet 1 = .ok (.iload_n 1, 1) := by decide +kernel
theorem dX12_octet_2 : decode cX12_octet 2 = .ok (.iconst 0, 1) := by decide +kernel
theorem dX12_octet_3 : decode cX12_octet 3 = .ok (.aload_n 0, 1) := by decide +kernel
theorem dX12_octet_4 : decode cX12_octet 4 = .ok (.getfield 343, 3) := by decide +kernel
theorem dX12_octet_7 : decode cX12_octet 7 = .ok (.iconst 1, 1) := by decide +kernel
theorem dX12_octet_8 : decode cX12_octet 8 = .ok (.isub, 1) := by decide +kernel
theorem dX12_octet_9 : decode cX12_octet 9 = .ok (.invokestatic 94, 3) := by decide +kernel
theorem dX12_octet_12 : decode cX12_octet 12 = .ok (.ifCond .eq 7, 3) := by decide +kernel
theorem dX12_octet_15 : decode cX12_octet 15 = .ok (.iconst 0, 1) := by decide +kernel
theorem dX12_octet_16 : decode cX12_octet 16 = .ok (.goto 4, 3) := by decide +kernel
theorem dX12_octet_19 : decode cX12_octet 19 = .ok (.iconst 1, 1) := by decide +kernel
theorem dX12_octet_20 : decode cX12_octet 20 = .ok (.putfield 73, 3) := by decide +kernel
theorem dX12_octet_23 : decode cX12_octet 23 = .ok (.aload_n 0, 1) := by decide +kernel
theorem dX12_octet_24 : decode cX12_octet 24 = .ok (.getfield 73, 3) := by decide +kernel
theorem dX12_octet_27 : decode cX12_octet 27 = .ok (.iconst 1, 1) := by decide +kernel
theorem dX12_octet_28 : decode cX12_octet 28 = .ok (.if_icmp .ne 7, 3) := by decide +kernel
theorem dX12_octet_31 : decode cX12_octet 31 = .ok (.iconst 0, 1) := by decide +kernel
theorem dX12_octet_32 : decode cX12_octet 32 = .ok (.goto 9, 3) := by decide +kernel
theorem dX12_octet_35 : decode cX12_octet 35 = .ok (.aload_n 0, 1) := by decide +kernel
theorem dX12_octet_36 : decode cX12_octet 36 = .ok (.getfield 70, 3) := by decide +kernel
theorem dX12_octet_39 : decode cX12_octet 39 = .ok (.iload_n 1, 1) := by decide +kernel
theorem dX12_octet_40 : decode cX12_octet 40 = .ok (.iaload, 1) := by decide +kernel
theorem dX12_octet_41 : decode cX12_octet 41 = .ok (.ireturn, 1) := by decide +kernel
theorem dX12_countsRows_0 : decode cX12_countsRows 0 = .ok (.iload_n 1, 1) := by decide +kernel
theorem dX12_countsRows_1 : decode cX12_countsRows 1 = .ok (.aload_n 0, 1) := by decide +kernel
theorem dX12_countsRows_2 : decode cX12_countsRows 2 = .ok (.getfield 220, 3) := by decide +kernel
theorem dX12_countsRows_5 : decode cX12_countsRows 5 = .ok (.if_icmp .ne 14, 3) := by decide +kernel
theorem dX12_countsRows_8 : decode cX12_countsRows 8 = .ok (.aload_n 0, 1) := by decide +kernel
theorem dX12_countsRows_9 : decode cX12_countsRows 9 = .ok (.dup, 1) := by decide +kernel
theorem dX12_countsRows_10 : decode cX12_countsRows 10 = .ok (.getfield 349, 3) := by decide +kernel
theorem dX12_countsRows_13 : decode cX12_countsRows 13 = .ok (.iconst 1, 1) := by decide +kernel
theorem dX12_countsRows_14 : decode cX12_countsRows 14 = .ok (.iadd, 1) := by decide +kernel
theorem dX12_countsRows_15 : decode cX12_countsRows 15 = .ok (.putfield 349, 3) := by decide +kernel
theorem dX12_countsRows_18 : decode cX12_countsRows 18 = .ok (.return_, 1) := by decide +kernel
theorem dX12_countsRows_19 : decode cX12_countsRows 19 = .ok (.iconst 0, 1) := by decide +kernel
theorem dX12_countsRows_20 : decode cX12_countsRows 20 = .ok (.istore_n 3, 1) := by decide +kernel
theorem dX12_countsRows_21 : decode cX12_countsRows 21 = .ok (.iload_n 3, 1) := by decide +kernel
theorem dX12_countsRows_22 : decode cX12_countsRows 22 = .ok (.bipush 20, 2) := by decide +kernel
theorem dX12_countsRows_24 : decode cX12_countsRows 24 = .ok (.if_icmp .gt 38, 3) := by decide +kernel
theorem dX12_countsRows_27 : decode cX12_countsRows 27 = .ok (.iload_n 3, 1) := by decide +kernel
theorem dX12_countsRows_28 : decode cX12_countsRows 28 = .ok (.aload_n 0, 1) := by decide +kernel
theorem dX12_countsRows_29 : decode cX12_countsRows 29 = .ok (.getfield 55, 3) := by decide +kernel
theorem dX12_countsRows_32 : decode cX12_countsRows 32 = .ok (.iload_n 1, 1) := by decide +kernel
theorem dX12_countsRows_33 : decode cX12_countsRows 33 = .ok (.iaload, 1) := by decide +kernel
theorem dX12_countsRows_34 : decode cX12_countsRows 34 = .ok (.imul, 1) := by decide +kernel
theorem dX12_countsRows_35 : decode cX12_countsRows 35 = .ok (.iload_n 2, 1) := by decide +kernel
theorem dX12_countsRows_36 : decode cX12_countsRows 36 = .ok (.if_icmp .gt 26, 3) := by decide +kernel
theorem dX12_countsRows_39 : decode cX12_countsRows 39 = .ok (.aload_n 0, 1) := by decide +kernel
theorem dX12_countsRows_40 : decode cX12_countsRows 40 = .ok (.iload_n 1, 1) := by decide +kernel
theorem dX12_countsRows_41 : decode cX12_countsRows 41 = .ok (.iconst 1, 1) := by decide +kernel
theorem dX12_countsRows_42 : decode cX12_countsRows 42 = .ok (.iadd, 1) := by decide +kernel
theorem dX12_countsRows_43 : decode cX12_countsRows 43 = .ok (.iload_n 2, 1) := by decide +kernel
theorem dX12_countsRows_44 : decode cX12_countsRows 44 = .ok (.iload_n 3, 1) := by decide +kernel
theorem dX12_countsRows_45 : decode cX12_countsRows 45 = .ok (.aload_n 0, 1) := by decide +kernel
theorem dX12_countsRows_46 : decode cX12_countsRows 46 = .ok (.getfield 55, 3) := by decide +kernel
theorem dX12_countsRows_49 : decode cX12_countsRows 49 = .ok (.iload_n 1, 1) := by decide +kernel
theorem dX12_countsRows_50 : decode cX12_countsRows 50 = .ok (.iaload, 1) := by decide +kernel
theorem dX12_countsRows_51 : decode cX12_countsRows 51 = .ok (.imul, 1) := by decide +kernel
theorem dX12_countsRows_52 : decode cX12_countsRows 52 = .ok (.isub, 1) := by decide +kernel
theorem dX12_countsRows_53 : decode cX12_countsRows 53 = .ok (.invokevirtual 352, 3) := by decide +kernel
theorem dX12_countsRows_56 : decode cX12_countsRows 56 = .ok (.iinc 3 1, 3) := by decide +kernel
theorem dX12_countsRows_59 : decode cX12_countsRows 59 = .ok (.goto (-38), 3) := by decide +kernel
theorem dX12_countsRows_62 : decode cX12_countsRows 62 = .ok (.return_, 1) := by decide +kernel
theorem dX12_best_0 : decode cX12_best 0 = .ok (.aload_n 0, 1) := by decide +kernel
theorem dX12_best_1 : decode cX12_best 1 = .ok (.iconst 0, 1) := by decide +kernel
theorem dX12_best_2 : decode cX12_best 2 = .ok (.putfield 73, 3) := by decide +kernel
theorem dX12_best_5 : decode cX12_best 5 = .ok (.aload_n 0, 1) := by decide +kernel
theorem dX12_best_6 : decode cX12_best 6 = .ok (.getfield 229, 3) := by decide +kernel
theorem dX12_best_9 : decode cX12_best 9 = .ok (.ifCond .eq 15, 3) := by decide +kernel
theorem dX12_best_12 : decode cX12_best 12 = .ok (.aload_n 0, 1) := by decide +kernel
theorem dX12_best_13 : decode cX12_best 13 = .ok (.aload_n 0, 1) := by decide +kernel
theorem dX12_best_14 : decode cX12_best 14 = .ok (.iconst 0, 1) := by decide +kernel
theorem dX12_best_15 : decode cX12_best 15 = .ok (.invokevirtual 305, 3) := by decide +kernel
theorem dX12_best_18 : decode cX12_best 18 = .ok (.invokevirtual 233, 3) := by decide +kernel
theorem dX12_best_21 : decode cX12_best 21 = .ok (.goto 8, 3) := by decide +kernel
theorem dX12_best_24 : decode cX12_best 24 = .ok (.aload_n 0, 1) := by decide +kernel
theorem dX12_best_25 : decode cX12_best 25 = .ok (.iconst 1, 1) := by decide +kernel
theorem dX12_best_26 : decode cX12_best 26 = .ok (.invokevirtual 213, 3) := by decide +kernel
theorem dX12_best_29 : decode cX12_best 29 = .ok (.ireturn, 1) := by decide +kernel
theorem dX12_bestOf_0 : decode cX12_bestOf 0 = .ok (.aload_n 0, 1) := by decide +kernel
theorem dX12_bestOf_1 : decode cX12_bestOf 1 = .ok (.iconst 0, 1) := by decide +kernel
theorem dX12_bestOf_2 : decode cX12_bestOf 2 = .ok (.putfield 73, 3) := by decide +kernel
theorem dX12_bestOf_5 : decode cX12_bestOf 5 = .ok (.aload_n 0, 1) := by decide +kernel
theorem dX12_bestOf_6 : decode cX12_bestOf 6 = .ok (.iload_n 1, 1) := by decide +kernel
theorem dX12_bestOf_7 : decode cX12_bestOf 7 = .ok (.invokevirtual 272, 3) := by decide +kernel
theorem dX12_bestOf_10 : decode cX12_bestOf 10 = .ok (.ifCond .ne 9, 3) := by decide +kernel
theorem dX12_bestOf_13 : decode cX12_bestOf 13 = .ok (.aload_n 0, 1) := by decide +kernel
theorem dX12_bestOf_14 : decode cX12_bestOf 14 = .ok (.iconst 1, 1) := by decide +kernel
theorem dX12_bestOf_15 : decode cX12_bestOf 15 = .ok (.invokevirtual 213, 3) := by decide +kernel
theorem dX12_bestOf_18 : decode cX12_bestOf 18 = .ok (.ireturn, 1) := by decide +kernel
theorem dX12_bestOf_19 : decode cX12_bestOf 19 = .ok (.aload_n 0, 1) := by decide +kernel
theorem dX12_bestOf_20 : decode cX12_bestOf 20 = .ok (.iconst 0, 1) := by decide +kernel
theorem dX12_bestOf_21 : decode cX12_bestOf 21 = .ok (.invokevirtual 305, 3) := by decide +kernel
theorem dX12_bestOf_24 : decode cX12_bestOf 24 = .ok (.istore_n 2, 1) := by decide +kernel
theorem dX12_bestOf_25 : decode cX12_bestOf 25 = .ok (.aload_n 0, 1) := by decide +kernel
theorem dX12_bestOf_26 : decode cX12_bestOf 26 = .ok (.iload_n 2, 1) := by decide +kernel
theorem dX12_bestOf_27 : decode cX12_bestOf 27 = .ok (.ldc_w 282, 3) := by decide +kernel
theorem dX12_bestOf_30 : decode cX12_bestOf 30 = .ok (.if_icmp .le 12, 3) := by decide +kernel
theorem dX12_bestOf_33 : decode cX12_bestOf 33 = .ok (.aload_n 0, 1) := by decide +kernel
theorem dX12_bestOf_34 : decode cX12_bestOf 34 = .ok (.getfield 61, 3) := by decide +kernel
theorem dX12_bestOf_37 : decode cX12_bestOf 37 = .ok (.iload_n 1, 1) := by decide +kernel
theorem dX12_bestOf_38 : decode cX12_bestOf 38 = .ok (.iaload, 1) := by decide +kernel
theorem dX12_bestOf_39 : decode cX12_bestOf 39 = .ok (.goto 4, 3) := by decide +kernel
theorem dX12_bestOf_42 : decode cX12_bestOf 42 = .ok (.iconst 0, 1) := by decide +kernel
theorem dX12_bestOf_43 : decode cX12_bestOf 43 = .ok (.invokevirtual 233, 3) := by decide +kernel
theorem dX12_bestOf_46 : decode cX12_bestOf 46 = .ok (.ireturn, 1) := by decide +kernel
theorem dX12_fair_0 : decode cX12_fair 0 = .ok (.aload_n 0, 1) := by decide +kernel
theorem dX12_fair_1 : decode cX12_fair 1 = .ok (.iconst 0, 1) := by decide +kernel
theorem dX12_fair_2 : decode cX12_fair 2 = .ok (.putfield 73, 3) := by decide +kernel
theorem dX12_fair_5 : decode cX12_fair 5 = .ok (.aload_n 0, 1) := by decide +kernel
theorem dX12_fair_6 : decode cX12_fair 6 = .ok (.getfield 229, 3) := by decide +kernel
theorem dX12_fair_9 : decode cX12_fair 9 = .ok (.ifCond .eq 15, 3) := by decide +kernel
theorem dX12_fair_12 : decode cX12_fair 12 = .ok (.aload_n 0, 1) := by decide +kernel
theorem dX12_fair_13 : decode cX12_fair 13 = .ok (.aload_n 0, 1) := by decide +kernel
theorem dX12_fair_14 : decode cX12_fair 14 = .ok (.iconst 1, 1) := by decide +kernel
theorem dX12_fair_15 : decode cX12_fair 15 = .ok (.invokevirtual 305, 3) := by decide +kernel
theorem dX12_fair_18 : decode cX12_fair 18 = .ok (.invokevirtual 233, 3) := by decide +kernel
theorem dX12_fair_21 : decode cX12_fair 21 = .ok (.goto 8, 3) := by decide +kernel
theorem dX12_fair_24 : decode cX12_fair 24 = .ok (.aload_n 0, 1) := by decide +kernel
theorem dX12_fair_25 : decode cX12_fair 25 = .ok (.iconst 1, 1) := by decide +kernel
theorem dX12_fair_26 : decode cX12_fair 26 = .ok (.invokevirtual 213, 3) := by decide +kernel
theorem dX12_fair_29 : decode cX12_fair 29 = .ok (.ireturn, 1) := by decide +kernel
theorem dX12_fairOf_0 : decode cX12_fairOf 0 = .ok (.aload_n 0, 1) := by decide +kernel
theorem dX12_fairOf_1 : decode cX12_fairOf 1 = .ok (.iconst 0, 1) := by decide +kernel
theorem dX12_fairOf_2 : decode cX12_fairOf 2 = .ok (.putfield 73, 3) := by decide +kernel
theorem dX12_fairOf_5 : decode cX12_fairOf 5 = .ok (.aload_n 0, 1) := by decide +kernel
theorem dX12_fairOf_6 : decode cX12_fairOf 6 = .ok (.iload_n 1, 1) := by decide +kernel
theorem dX12_fairOf_7 : decode cX12_fairOf 7 = .ok (.invokevirtual 272, 3) := by decide +kernel
theorem dX12_fairOf_10 : decode cX12_fairOf 10 = .ok (.ifCond .ne 9, 3) := by decide +kernel
theorem dX12_fairOf_13 : decode cX12_fairOf 13 = .ok (.aload_n 0, 1) := by decide +kernel
theorem dX12_fairOf_14 : decode cX12_fairOf 14 = .ok (.iconst 1, 1) := by decide +kernel
theorem dX12_fairOf_15 : decode cX12_fairOf 15 = .ok (.invokevirtual 213, 3) := by decide +kernel
theorem dX12_fairOf_18 : decode cX12_fairOf 18 = .ok (.ireturn, 1) := by decide +kernel
theorem dX12_fairOf_19 : decode cX12_fairOf 19 = .ok (.aload_n 0, 1) := by decide +kernel
theorem dX12_fairOf_20 : decode cX12_fairOf 20 = .ok (.iconst 1, 1) := by decide +kernel
theorem dX12_fairOf_21 : decode cX12_fairOf 21 = .ok (.invokevirtual 305, 3) := by decide +kernel
theorem dX12_fairOf_24 : decode cX12_fairOf 24 = .ok (.istore_n 2, 1) := by decide +kernel
theorem dX12_fairOf_25 : decode cX12_fairOf 25 = .ok (.aload_n 0, 1) := by decide +kernel
theorem dX12_fairOf_26 : decode cX12_fairOf 26 = .ok (.iload_n 2, 1) := by decide +kernel
theorem dX12_fairOf_27 : decode cX12_fairOf 27 = .ok (.ldc_w 282, 3) := by decide +kernel
theorem dX12_fairOf_30 : decode cX12_fairOf 30 = .ok (.if_icmp .le 12, 3) := by decide +kernel
theorem dX12_fairOf_33 : decode cX12_fairOf 33 = .ok (.aload_n 0, 1) := by decide +kernel
theorem dX12_fairOf_34 : decode cX12_fairOf 34 = .ok (.getfield 61, 3) := by decide +kernel
theorem dX12_fairOf_37 : decode cX12_fairOf 37 = .ok (.iload_n 1, 1) := by decide +kernel
theorem dX12_fairOf_38 : decode cX12_fairOf 38 = .ok (.iaload, 1) := by decide +kernel
theorem dX12_fairOf_39 : decode cX12_fairOf 39 = .ok (.goto 4, 3) := by decide +kernel
theorem dX12_fairOf_42 : decode cX12_fairOf 42 = .ok (.iconst 0, 1) := by decide +kernel
theorem dX12_fairOf_43 : decode cX12_fairOf 43 = .ok (.invokevirtual 233, 3) := by decide +kernel
theorem dX12_fairOf_46 : decode cX12_fairOf 46 = .ok (.ireturn, 1) := by decide +kernel
theorem dX12_rows_0 : decode cX12_rows 0 = .ok (.aload_n 0, 1) := by decide +kernel
theorem dX12_rows_1 : decode cX12_rows 1 = .ok (.iconst 0, 1) := by decide +kernel
theorem dX12_rows_2 : decode cX12_rows 2 = .ok (.putfield 73, 3) := by decide +kernel
theorem dX12_rows_5 : decode cX12_rows 5 = .ok (.aload_n 0, 1) := by decide +kernel
theorem dX12_rows_6 : decode cX12_rows 6 = .ok (.getfield 229, 3) := by decide +kernel
theorem dX12_rows_9 : decode cX12_rows 9 = .ok (.ifCond .ne 9, 3) := by decide +kernel
theorem dX12_rows_12 : decode cX12_rows 12 = .ok (.aload_n 0, 1) := by decide +kernel
theorem dX12_rows_13 : decode cX12_rows 13 = .ok (.iconst 1, 1) := by decide +kernel
theorem dX12_rows_14 : decode cX12_rows 14 = .ok (.invokevirtual 213, 3) := by decide +kernel
theorem dX12_rows_17 : decode cX12_rows 17 = .ok (.ireturn, 1) := by decide +kernel
theorem dX12_rows_18 : decode cX12_rows 18 = .ok (.aload_n 0, 1) := by decide +kernel
theorem dX12_rows_19 : decode cX12_rows 19 = .ok (.iconst 0, 1) := by decide +kernel
theorem dX12_rows_20 : decode cX12_rows 20 = .ok (.invokevirtual 298, 3) := by decide +kernel
theorem dX12_rows_23 : decode cX12_rows 23 = .ok (.aload_n 0, 1) := by decide +kernel
theorem dX12_rows_24 : decode cX12_rows 24 = .ok (.iconst 0, 1) := by decide +kernel
theorem dX12_rows_25 : decode cX12_rows 25 = .ok (.putfield 349, 3) := by decide +kernel
theorem dX12_rows_28 : decode cX12_rows 28 = .ok (.aload_n 0, 1) := by decide +kernel
theorem dX12_rows_29 : decode cX12_rows 29 = .ok (.iconst 0, 1) := by decide +kernel
theorem dX12_rows_30 : decode cX12_rows 30 = .ok (.aload_n 0, 1) := by decide +kernel
theorem dX12_rows_31 : decode cX12_rows 31 = .ok (.invokevirtual 260, 3) := by decide +kernel
theorem dX12_rows_34 : decode cX12_rows 34 = .ok (.invokevirtual 352, 3) := by decide +kernel
theorem dX12_rows_37 : decode cX12_rows 37 = .ok (.aload_n 0, 1) := by decide +kernel
theorem dX12_rows_38 : decode cX12_rows 38 = .ok (.aload_n 0, 1) := by decide +kernel
theorem dX12_rows_39 : decode cX12_rows 39 = .ok (.getfield 349, 3) := by decide +kernel
theorem dX12_rows_42 : decode cX12_rows 42 = .ok (.invokevirtual 233, 3) := by decide +kernel
theorem dX12_rows_45 : decode cX12_rows 45 = .ok (.ireturn, 1) := by decide +kernel
theorem dX12_keepsAside_0 : decode cX12_keepsAside 0 = .ok (.iconst 0, 1) := by decide +kernel
theorem dX12_keepsAside_1 : decode cX12_keepsAside 1 = .ok (.istore_n 1, 1) := by decide +kernel
theorem dX12_keepsAside_2 : decode cX12_keepsAside 2 = .ok (.iload_n 1, 1) := by decide +kernel
theorem dX12_keepsAside_3 : decode cX12_keepsAside 3 = .ok (.bipush 34, 2) := by decide +kernel
theorem dX12_keepsAside_5 : decode cX12_keepsAside 5 = .ok (.if_icmp .ge 21, 3) := by decide +kernel
theorem dX12_keepsAside_8 : decode cX12_keepsAside 8 = .ok (.aload_n 0, 1) := by decide +kernel
theorem dX12_keepsAside_9 : decode cX12_keepsAside 9 = .ok (.getfield 23, 3) := by decide +kernel
theorem dX12_keepsAside_12 : decode cX12_keepsAside 12 = .ok (.iload_n 1, 1) := by decide +kernel
theorem dX12_keepsAside_13 : decode cX12_keepsAside 13 = .ok (.aload_n 0, 1) := by decide +kernel
theorem dX12_keepsAside_14 : decode cX12_keepsAside 14 = .ok (.getfield 17, 3) := by decide +kernel
theorem dX12_keepsAside_17 : decode cX12_keepsAside 17 = .ok (.iload_n 1, 1) := by decide +kernel
theorem dX12_keepsAside_18 : decode cX12_keepsAside 18 = .ok (.iaload, 1) := by decide +kernel
theorem dX12_keepsAside_19 : decode cX12_keepsAside 19 = .ok (.iastore, 1) := by decide +kernel
theorem dX12_keepsAside_20 : decode cX12_keepsAside 20 = .ok (.iinc 1 1, 3) := by decide +kernel
theorem dX12_keepsAside_23 : decode cX12_keepsAside 23 = .ok (.goto (-21), 3) := by decide +kernel
theorem dX12_keepsAside_26 : decode cX12_keepsAside 26 = .ok (.return_, 1) := by decide +kernel
theorem dX12_putsBack_0 : decode cX12_putsBack 0 = .ok (.iconst 0, 1) := by decide +kernel
theorem dX12_putsBack_1 : decode cX12_putsBack 1 = .ok (.istore_n 1, 1) := by decide +kernel
theorem dX12_putsBack_2 : decode cX12_putsBack 2 = .ok (.iload_n 1, 1) := by decide +kernel
theorem dX12_putsBack_3 : decode cX12_putsBack 3 = .ok (.bipush 34, 2) := by decide +kernel
theorem dX12_putsBack_5 : decode cX12_putsBack 5 = .ok (.if_icmp .ge 21, 3) := by decide +kernel
theorem dX12_putsBack_8 : decode cX12_putsBack 8 = .ok (.aload_n 0, 1) := by decide +kernel
theorem dX12_putsBack_9 : decode cX12_putsBack 9 = .ok (.getfield 17, 3) := by decide +kernel
theorem dX12_putsBack_12 : decode cX12_putsBack 12 = .ok (.iload_n 1, 1) := by decide +kernel
theorem dX12_putsBack_13 : decode cX12_putsBack 13 = .ok (.aload_n 0, 1) := by decide +kernel
theorem dX12_putsBack_14 : decode cX12_putsBack 14 = .ok (.getfield 23, 3) := by decide +kernel
theorem dX12_putsBack_17 : decode cX12_putsBack 17 = .ok (.iload_n 1, 1) := by decide +kernel
theorem dX12_putsBack_18 : decode cX12_putsBack 18 = .ok (.iaload, 1) := by decide +kernel
theorem dX12_putsBack_19 : decode cX12_putsBack 19 = .ok (.iastore, 1) := by decide +kernel
theorem dX12_putsBack_20 : decode cX12_putsBack 20 = .ok (.iinc 1 1, 3) := by decide +kernel
theorem dX12_putsBack_23 : decode cX12_putsBack 23 = .ok (.goto (-21), 3) := by decide +kernel
theorem dX12_putsBack_26 : decode cX12_putsBack 26 = .ok (.return_, 1) := by decide +kernel
theorem dX12_ends_0 : decode cX12_ends 0 = .ok (.aload_n 0, 1) := by decide +kernel
theorem dX12_ends_1 : decode cX12_ends 1 = .ok (.invokevirtual 260, 3) := by decide +kernel
theorem dX12_ends_4 : decode cX12_ends 4 = .ok (.istore_n 1, 1) := by decide +kernel
theorem dX12_ends_5 : decode cX12_ends 5 = .ok (.iload_n 1, 1) := by decide +kernel
theorem dX12_ends_6 : decode cX12_ends 6 = .ok (.aload_n 0, 1) := by decide +kernel
theorem dX12_ends_7 : decode cX12_ends 7 = .ok (.invokevirtual 257, 3) := by decide +kernel
theorem dX12_ends_10 : decode cX12_ends 10 = .ok (.isub, 1) := by decide +kernel
theorem dX12_ends_11 : decode cX12_ends 11 = .ok (.istore_n 2, 1) := by decide +kernel
theorem dX12_ends_12 : decode cX12_ends 12 = .ok (.aload_n 0, 1) := by decide +kernel
theorem dX12_ends_13 : decode cX12_ends 13 = .ok (.getfield 17, 3) := by decide +kernel
theorem dX12_ends_16 : decode cX12_ends 16 = .ok (.bipush 30, 2) := by decide +kernel
theorem dX12_ends_18 : decode cX12_ends 18 = .ok (.iaload, 1) := by decide +kernel
theorem dX12_ends_19 : decode cX12_ends 19 = .ok (.iload_n 1, 1) := by decide +kernel
theorem dX12_ends_20 : decode cX12_ends 20 = .ok (.imul, 1) := by decide +kernel
theorem dX12_ends_21 : decode cX12_ends 21 = .ok (.bipush 100, 2) := by decide +kernel
theorem dX12_ends_23 : decode cX12_ends 23 = .ok (.idiv, 1) := by decide +kernel
theorem dX12_ends_24 : decode cX12_ends 24 = .ok (.istore_n 3, 1) := by decide +kernel
theorem dX12_ends_25 : decode cX12_ends 25 = .ok (.aload_n 0, 1) := by decide +kernel
theorem dX12_ends_26 : decode cX12_ends 26 = .ok (.getfield 17, 3) := by decide +kernel
theorem dX12_ends_29 : decode cX12_ends 29 = .ok (.bipush 33, 2) := by decide +kernel
theorem dX12_ends_31 : decode cX12_ends 31 = .ok (.iload_n 2, 1) := by decide +kernel
theorem dX12_ends_32 : decode cX12_ends 32 = .ok (.ifCond .ge 9, 3) := by decide +kernel
theorem dX12_ends_35 : decode cX12_ends 35 = .ok (.iconst 2, 1) := by decide +kernel
theorem dX12_ends_36 : decode cX12_ends 36 = .ok (.iload_n 2, 1) := by decide +kernel
theorem dX12_ends_37 : decode cX12_ends 37 = .ok (.imul, 1) := by decide +kernel
theorem dX12_ends_38 : decode cX12_ends 38 = .ok (.goto 13, 3) := by decide +kernel
theorem dX12_ends_41 : decode cX12_ends 41 = .ok (.iload_n 2, 1) := by decide +kernel
theorem dX12_ends_42 : decode cX12_ends 42 = .ok (.iload_n 3, 1) := by decide +kernel
theorem dX12_ends_43 : decode cX12_ends 43 = .ok (.if_icmp .ge 7, 3) := by decide +kernel
theorem dX12_ends_46 : decode cX12_ends 46 = .ok (.iload_n 2, 1) := by decide +kernel
theorem dX12_ends_47 : decode cX12_ends 47 = .ok (.goto 4, 3) := by decide +kernel
theorem dX12_ends_50 : decode cX12_ends 50 = .ok (.iload_n 3, 1) := by decide +kernel
theorem dX12_ends_51 : decode cX12_ends 51 = .ok (.iastore, 1) := by decide +kernel
theorem dX12_ends_52 : decode cX12_ends 52 = .ok (.iconst 0, 1) := by decide +kernel
theorem dX12_ends_53 : decode cX12_ends 53 = .ok (.istore 4, 2) := by decide +kernel
theorem dX12_ends_55 : decode cX12_ends 55 = .ok (.iload 4, 2) := by decide +kernel
theorem dX12_ends_57 : decode cX12_ends 57 = .ok (.aload_n 0, 1) := by decide +kernel
theorem dX12_ends_58 : decode cX12_ends 58 = .ok (.getfield 220, 3) := by decide +kernel
theorem dX12_ends_61 : decode cX12_ends 61 = .ok (.if_icmp .ge 28, 3) := by decide +kernel
theorem dX12_ends_64 : decode cX12_ends 64 = .ok (.aload_n 0, 1) := by decide +kernel
theorem dX12_ends_65 : decode cX12_ends 65 = .ok (.getfield 17, 3) := by decide +kernel
theorem dX12_ends_68 : decode cX12_ends 68 = .ok (.bipush 7, 2) := by decide +kernel
theorem dX12_ends_70 : decode cX12_ends 70 = .ok (.iload 4, 2) := by decide +kernel
theorem dX12_ends_72 : decode cX12_ends 72 = .ok (.imul, 1) := by decide +kernel
theorem dX12_ends_73 : decode cX12_ends 73 = .ok (.iconst 0, 1) := by decide +kernel
theorem dX12_ends_74 : decode cX12_ends 74 = .ok (.iadd, 1) := by decide +kernel
theorem dX12_ends_75 : decode cX12_ends 75 = .ok (.aload_n 0, 1) := by decide +kernel
theorem dX12_ends_76 : decode cX12_ends 76 = .ok (.iload 4, 2) := by decide +kernel
theorem dX12_ends_78 : decode cX12_ends 78 = .ok (.iconst 1, 1) := by decide +kernel
theorem dX12_ends_79 : decode cX12_ends 79 = .ok (.invokevirtual 236, 3) := by decide +kernel
theorem dX12_ends_82 : decode cX12_ends 82 = .ok (.iastore, 1) := by decide +kernel
theorem dX12_ends_83 : decode cX12_ends 83 = .ok (.iinc 4 1, 3) := by decide +kernel
theorem dX12_ends_86 : decode cX12_ends 86 = .ok (.goto (-31), 3) := by decide +kernel
theorem dX12_ends_89 : decode cX12_ends 89 = .ok (.return_, 1) := by decide +kernel
theorem dX12_plays_0 : decode cX12_plays 0 = .ok (.aload_n 0, 1) := by decide +kernel
theorem dX12_plays_1 : decode cX12_plays 1 = .ok (.iconst (-1), 1) := by decide +kernel
theorem dX12_plays_2 : decode cX12_plays 2 = .ok (.putfield 356, 3) := by decide +kernel
theorem dX12_plays_5 : decode cX12_plays 5 = .ok (.aload_n 0, 1) := by decide +kernel
theorem dX12_plays_6 : decode cX12_plays 6 = .ok (.invokevirtual 359, 3) := by decide +kernel
theorem dX12_plays_9 : decode cX12_plays 9 = .ok (.iconst 0, 1) := by decide +kernel
theorem dX12_plays_10 : decode cX12_plays 10 = .ok (.istore_n 1, 1) := by decide +kernel
theorem dX12_plays_11 : decode cX12_plays 11 = .ok (.iload_n 1, 1) := by decide +kernel
theorem dX12_plays_12 : decode cX12_plays 12 = .ok (.aload_n 0, 1) := by decide +kernel
theorem dX12_plays_13 : decode cX12_plays 13 = .ok (.getfield 220, 3) := by decide +kernel
theorem dX12_plays_16 : decode cX12_plays 16 = .ok (.if_icmp .ge 111, 3) := by decide +kernel
theorem dX12_plays_19 : decode cX12_plays 19 = .ok (.iconst 0, 1) := by decide +kernel
theorem dX12_plays_20 : decode cX12_plays 20 = .ok (.istore_n 2, 1) := by decide +kernel
theorem dX12_plays_21 : decode cX12_plays 21 = .ok (.iload_n 2, 1) := by decide +kernel
theorem dX12_plays_22 : decode cX12_plays 22 = .ok (.bipush 20, 2) := by decide +kernel
theorem dX12_plays_24 : decode cX12_plays 24 = .ok (.if_icmp .gt 97, 3) := by decide +kernel
theorem dX12_plays_27 : decode cX12_plays 27 = .ok (.aload_n 0, 1) := by decide +kernel
theorem dX12_plays_28 : decode cX12_plays 28 = .ok (.iload_n 1, 1) := by decide +kernel
theorem dX12_plays_29 : decode cX12_plays 29 = .ok (.iload_n 2, 1) := by decide +kernel
theorem dX12_plays_30 : decode cX12_plays 30 = .ok (.invokevirtual 278, 3) := by decide +kernel
theorem dX12_plays_33 : decode cX12_plays 33 = .ok (.ifCond .ne 6, 3) := by decide +kernel
theorem dX12_plays_36 : decode cX12_plays 36 = .ok (.goto 79, 3) := by decide +kernel
theorem dX12_plays_39 : decode cX12_plays 39 = .ok (.aload_n 0, 1) := by decide +kernel
theorem dX12_plays_40 : decode cX12_plays 40 = .ok (.getfield 17, 3) := by decide +kernel
theorem dX12_plays_43 : decode cX12_plays 43 = .ok (.bipush 7, 2) := by decide +kernel
theorem dX12_plays_45 : decode cX12_plays 45 = .ok (.iload_n 1, 1) := by decide +kernel
theorem dX12_plays_46 : decode cX12_plays 46 = .ok (.imul, 1) := by decide +kernel
theorem dX12_plays_47 : decode cX12_plays 47 = .ok (.iconst 1, 1) := by decide +kernel
theorem dX12_plays_48 : decode cX12_plays 48 = .ok (.iadd, 1) := by decide +kernel
theorem dX12_plays_49 : decode cX12_plays 49 = .ok (.iload_n 2, 1) := by decide +kernel
theorem dX12_plays_50 : decode cX12_plays 50 = .ok (.iastore, 1) := by decide +kernel
theorem dX12_plays_51 : decode cX12_plays 51 = .ok (.aload_n 0, 1) := by decide +kernel
theorem dX12_plays_52 : decode cX12_plays 52 = .ok (.iconst 0, 1) := by decide +kernel
theorem dX12_plays_53 : decode cX12_plays 53 = .ok (.invokevirtual 328, 3) := by decide +kernel
theorem dX12_plays_56 : decode cX12_plays 56 = .ok (.istore_n 3, 1) := by decide +kernel
theorem dX12_plays_57 : decode cX12_plays 57 = .ok (.aload_n 0, 1) := by decide +kernel
theorem dX12_plays_58 : decode cX12_plays 58 = .ok (.invokevirtual 362, 3) := by decide +kernel
theorem dX12_plays_61 : decode cX12_plays 61 = .ok (.iload_n 3, 1) := by decide +kernel
theorem dX12_plays_62 : decode cX12_plays 62 = .ok (.aload_n 0, 1) := by decide +kernel
theorem dX12_plays_63 : decode cX12_plays 63 = .ok (.iconst 0, 1) := by decide +kernel
theorem dX12_plays_64 : decode cX12_plays 64 = .ok (.invokevirtual 305, 3) := by decide +kernel
theorem dX12_plays_67 : decode cX12_plays 67 = .ok (.iadd, 1) := by decide +kernel
theorem dX12_plays_68 : decode cX12_plays 68 = .ok (.istore 4, 2) := by decide +kernel
theorem dX12_plays_70 : decode cX12_plays 70 = .ok (.aload_n 0, 1) := by decide +kernel
theorem dX12_plays_71 : decode cX12_plays 71 = .ok (.invokevirtual 365, 3) := by decide +kernel
theorem dX12_plays_74 : decode cX12_plays 74 = .ok (.aload_n 0, 1) := by decide +kernel
theorem dX12_plays_75 : decode cX12_plays 75 = .ok (.getfield 356, 3) := by decide +kernel
theorem dX12_plays_78 : decode cX12_plays 78 = .ok (.iconst (-1), 1) := by decide +kernel
theorem dX12_plays_79 : decode cX12_plays 79 = .ok (.if_icmp .eq 15, 3) := by decide +kernel
theorem dX12_plays_82 : decode cX12_plays 82 = .ok (.iload 4, 2) := by decide +kernel
theorem dX12_plays_84 : decode cX12_plays 84 = .ok (.aload_n 0, 1) := by decide +kernel
theorem dX12_plays_85 : decode cX12_plays 85 = .ok (.getfield 368, 3) := by decide +kernel
theorem dX12_plays_88 : decode cX12_plays 88 = .ok (.if_icmp .gt 6, 3) := by decide +kernel
theorem dX12_plays_91 : decode cX12_plays 91 = .ok (.goto 24, 3) := by decide +kernel
theorem dX12_plays_94 : decode cX12_plays 94 = .ok (.aload_n 0, 1) := by decide +kernel
theorem dX12_plays_95 : decode cX12_plays 95 = .ok (.iload 4, 2) := by decide +kernel
theorem dX12_plays_97 : decode cX12_plays 97 = .ok (.putfield 368, 3) := by decide +kernel
theorem dX12_plays_100 : decode cX12_plays 100 = .ok (.aload_n 0, 1) := by decide +kernel
theorem dX12_plays_101 : decode cX12_plays 101 = .ok (.iload_n 1, 1) := by decide +kernel
theorem dX12_plays_102 : decode cX12_plays 102 = .ok (.putfield 356, 3) := by decide +kernel
theorem dX12_plays_105 : decode cX12_plays 105 = .ok (.aload_n 0, 1) := by decide +kernel
theorem dX12_plays_106 : decode cX12_plays 106 = .ok (.iload_n 2, 1) := by decide +kernel
theorem dX12_plays_107 : decode cX12_plays 107 = .ok (.putfield 371, 3) := by decide +kernel
theorem dX12_plays_110 : decode cX12_plays 110 = .ok (.aload_n 0, 1) := by decide +kernel
theorem dX12_plays_111 : decode cX12_plays 111 = .ok (.iload_n 3, 1) := by decide +kernel
theorem dX12_plays_112 : decode cX12_plays 112 = .ok (.putfield 374, 3) := by decide +kernel
theorem dX12_plays_115 : decode cX12_plays 115 = .ok (.iinc 2 1, 3) := by decide +kernel
theorem dX12_plays_118 : decode cX12_plays 118 = .ok (.goto (-97), 3) := by decide +kernel
theorem dX12_plays_121 : decode cX12_plays 121 = .ok (.iinc 1 1, 3) := by decide +kernel
theorem dX12_plays_124 : decode cX12_plays 124 = .ok (.goto (-113), 3) := by decide +kernel
theorem dX12_plays_127 : decode cX12_plays 127 = .ok (.aload_n 0, 1) := by decide +kernel
theorem dX12_plays_128 : decode cX12_plays 128 = .ok (.getfield 356, 3) := by decide +kernel
theorem dX12_plays_131 : decode cX12_plays 131 = .ok (.iconst (-1), 1) := by decide +kernel
theorem dX12_plays_132 : decode cX12_plays 132 = .ok (.if_icmp .eq 7, 3) := by decide +kernel
theorem dX12_plays_135 : decode cX12_plays 135 = .ok (.iconst 1, 1) := by decide +kernel
theorem dX12_plays_136 : decode cX12_plays 136 = .ok (.goto 4, 3) := by decide +kernel
theorem dX12_plays_139 : decode cX12_plays 139 = .ok (.iconst 0, 1) := by decide +kernel
theorem dX12_plays_140 : decode cX12_plays 140 = .ok (.ireturn, 1) := by decide +kernel
theorem dX12_game_0 : decode cX12_game 0 = .ok (.aload_n 0, 1) := by decide +kernel
theorem dX12_game_1 : decode cX12_game 1 = .ok (.iconst 0, 1) := by decide +kernel
theorem dX12_game_2 : decode cX12_game 2 = .ok (.putfield 73, 3) := by decide +kernel
theorem dX12_game_5 : decode cX12_game 5 = .ok (.aload_n 0, 1) := by decide +kernel
theorem dX12_game_6 : decode cX12_game 6 = .ok (.getfield 229, 3) := by decide +kernel
theorem dX12_game_9 : decode cX12_game 9 = .ok (.ifCond .eq 12, 3) := by decide +kernel
theorem dX12_game_12 : decode cX12_game 12 = .ok (.iload_n 1, 1) := by decide +kernel
theorem dX12_game_13 : decode cX12_game 13 = .ok (.iconst 0, 1) := by decide +kernel
theorem dX12_game_14 : decode cX12_game 14 = .ok (.iconst 3, 1) := by decide +kernel
theorem dX12_game_15 : decode cX12_game 15 = .ok (.invokestatic 94, 3) := by decide +kernel
theorem dX12_game_18 : decode cX12_game 18 = .ok (.ifCond .ne 9, 3) := by decide +kernel
theorem dX12_game_21 : decode cX12_game 21 = .ok (.aload_n 0, 1) := by decide +kernel
theorem dX12_game_22 : decode cX12_game 22 = .ok (.iconst 1, 1) := by decide +kernel
theorem dX12_game_23 : decode cX12_game 23 = .ok (.invokevirtual 213, 3) := by decide +kernel
theorem dX12_game_26 : decode cX12_game 26 = .ok (.ireturn, 1) := by decide +kernel
theorem dX12_game_27 : decode cX12_game 27 = .ok (.aload_n 0, 1) := by decide +kernel
theorem dX12_game_28 : decode cX12_game 28 = .ok (.invokevirtual 377, 3) := by decide +kernel
theorem dX12_game_31 : decode cX12_game 31 = .ok (.ifCond .ne 10, 3) := by decide +kernel
theorem dX12_game_34 : decode cX12_game 34 = .ok (.aload_n 0, 1) := by decide +kernel
theorem dX12_game_35 : decode cX12_game 35 = .ok (.bipush 6, 2) := by decide +kernel
theorem dX12_game_37 : decode cX12_game 37 = .ok (.invokevirtual 213, 3) := by decide +kernel
theorem dX12_game_40 : decode cX12_game 40 = .ok (.ireturn, 1) := by decide +kernel
theorem dX12_game_41 : decode cX12_game 41 = .ok (.aload_n 0, 1) := by decide +kernel
theorem dX12_game_42 : decode cX12_game 42 = .ok (.iload_n 1, 1) := by decide +kernel
theorem dX12_game_43 : decode cX12_game 43 = .ok (.ifCond .ne 10, 3) := by decide +kernel
theorem dX12_game_46 : decode cX12_game 46 = .ok (.aload_n 0, 1) := by decide +kernel
theorem dX12_game_47 : decode cX12_game 47 = .ok (.getfield 368, 3) := by decide +kernel
theorem dX12_game_50 : decode cX12_game 50 = .ok (.goto 31, 3) := by decide +kernel
theorem dX12_game_53 : decode cX12_game 53 = .ok (.iload_n 1, 1) := by decide +kernel
theorem dX12_game_54 : decode cX12_game 54 = .ok (.iconst 1, 1) := by decide +kernel
theorem dX12_game_55 : decode cX12_game 55 = .ok (.if_icmp .ne 10, 3) := by decide +kernel
theorem dX12_game_58 : decode cX12_game 58 = .ok (.aload_n 0, 1) := by decide +kernel
theorem dX12_game_59 : decode cX12_game 59 = .ok (.getfield 356, 3) := by decide +kernel
theorem dX12_game_62 : decode cX12_game 62 = .ok (.goto 19, 3) := by decide +kernel
theorem dX12_game_65 : decode cX12_game 65 = .ok (.iload_n 1, 1) := by decide +kernel
theorem dX12_game_66 : decode cX12_game 66 = .ok (.iconst 2, 1) := by decide +kernel
theorem dX12_game_67 : decode cX12_game 67 = .ok (.if_icmp .ne 10, 3) := by decide +kernel
theorem dX12_game_70 : decode cX12_game 70 = .ok (.aload_n 0, 1) := by decide +kernel
theorem dX12_game_71 : decode cX12_game 71 = .ok (.getfield 371, 3) := by decide +kernel
theorem dX12_game_74 : decode cX12_game 74 = .ok (.goto 7, 3) := by decide +kernel
theorem dX12_game_77 : decode cX12_game 77 = .ok (.aload_n 0, 1) := by decide +kernel
theorem dX12_game_78 : decode cX12_game 78 = .ok (.getfield 374, 3) := by decide +kernel
theorem dX12_game_81 : decode cX12_game 81 = .ok (.invokevirtual 233, 3) := by decide +kernel
theorem dX12_game_84 : decode cX12_game 84 = .ok (.ireturn, 1) := by decide +kernel
theorem dX12_takesRow_0 : decode cX12_takesRow 0 = .ok (.iconst 0, 1) := by decide +kernel
theorem dX12_takesRow_1 : decode cX12_takesRow 1 = .ok (.istore_n 1, 1) := by decide +kernel
theorem dX12_takesRow_2 : decode cX12_takesRow 2 = .ok (.iload_n 1, 1) := by decide +kernel
theorem dX12_takesRow_3 : decode cX12_takesRow 3 = .ok (.aload_n 0, 1) := by decide +kernel
theorem dX12_takesRow_4 : decode cX12_takesRow 4 = .ok (.getfield 220, 3) := by decide +kernel
theorem dX12_takesRow_7 : decode cX12_takesRow 7 = .ok (.if_icmp .ge 26, 3) := by decide +kernel
theorem dX12_takesRow_10 : decode cX12_takesRow 10 = .ok (.aload_n 0, 1) := by decide +kernel
theorem dX12_takesRow_11 : decode cX12_takesRow 11 = .ok (.getfield 17, 3) := by decide +kernel
theorem dX12_takesRow_14 : decode cX12_takesRow 14 = .ok (.bipush 7, 2) := by decide +kernel
theorem dX12_takesRow_16 : decode cX12_takesRow 16 = .ok (.iload_n 1, 1) := by decide +kernel
theorem dX12_takesRow_17 : decode cX12_takesRow 17 = .ok (.imul, 1) := by decide +kernel
theorem dX12_takesRow_18 : decode cX12_takesRow 18 = .ok (.iconst 1, 1) := by decide +kernel
theorem dX12_takesRow_19 : decode cX12_takesRow 19 = .ok (.iadd, 1) := by decide +kernel
theorem dX12_takesRow_20 : decode cX12_takesRow 20 = .ok (.aload_n 0, 1) := by decide +kernel
theorem dX12_takesRow_21 : decode cX12_takesRow 21 = .ok (.getfield 61, 3) := by decide +kernel
theorem dX12_takesRow_24 : decode cX12_takesRow 24 = .ok (.iload_n 1, 1) := by decide +kernel
theorem dX12_takesRow_25 : decode cX12_takesRow 25 = .ok (.iaload, 1) := by decide +kernel
theorem dX12_takesRow_26 : decode cX12_takesRow 26 = .ok (.iastore, 1) := by decide +kernel
theorem dX12_takesRow_27 : decode cX12_takesRow 27 = .ok (.iinc 1 1, 3) := by decide +kernel
theorem dX12_takesRow_30 : decode cX12_takesRow 30 = .ok (.goto (-28), 3) := by decide +kernel
theorem dX12_takesRow_33 : decode cX12_takesRow 33 = .ok (.return_, 1) := by decide +kernel
theorem dX12_isSame_0 : decode cX12_isSame 0 = .ok (.iconst 1, 1) := by decide +kernel
theorem dX12_isSame_1 : decode cX12_isSame 1 = .ok (.istore_n 1, 1) := by decide +kernel
theorem dX12_isSame_2 : decode cX12_isSame 2 = .ok (.iconst 0, 1) := by decide +kernel
theorem dX12_isSame_3 : decode cX12_isSame 3 = .ok (.istore_n 2, 1) := by decide +kernel
theorem dX12_isSame_4 : decode cX12_isSame 4 = .ok (.iload_n 2, 1) := by decide +kernel
theorem dX12_isSame_5 : decode cX12_isSame 5 = .ok (.aload_n 0, 1) := by decide +kernel
theorem dX12_isSame_6 : decode cX12_isSame 6 = .ok (.getfield 220, 3) := by decide +kernel
theorem dX12_isSame_9 : decode cX12_isSame 9 = .ok (.if_icmp .ge 34, 3) := by decide +kernel
theorem dX12_isSame_12 : decode cX12_isSame 12 = .ok (.iload_n 1, 1) := by decide +kernel
theorem dX12_isSame_13 : decode cX12_isSame 13 = .ok (.ifCond .eq 22, 3) := by decide +kernel
theorem dX12_isSame_16 : decode cX12_isSame 16 = .ok (.aload_n 0, 1) := by decide +kernel
theorem dX12_isSame_17 : decode cX12_isSame 17 = .ok (.iload_n 2, 1) := by decide +kernel
theorem dX12_isSame_18 : decode cX12_isSame 18 = .ok (.iconst 1, 1) := by decide +kernel
theorem dX12_isSame_19 : decode cX12_isSame 19 = .ok (.invokevirtual 236, 3) := by decide +kernel
theorem dX12_isSame_22 : decode cX12_isSame 22 = .ok (.aload_n 0, 1) := by decide +kernel
theorem dX12_isSame_23 : decode cX12_isSame 23 = .ok (.iload_n 2, 1) := by decide +kernel
theorem dX12_isSame_24 : decode cX12_isSame 24 = .ok (.iconst 0, 1) := by decide +kernel
theorem dX12_isSame_25 : decode cX12_isSame 25 = .ok (.invokevirtual 236, 3) := by decide +kernel
theorem dX12_isSame_28 : decode cX12_isSame 28 = .ok (.if_icmp .ne 7, 3) := by decide +kernel
theorem dX12_isSame_31 : decode cX12_isSame 31 = .ok (.iconst 1, 1) := by decide +kernel
theorem dX12_isSame_32 : decode cX12_isSame 32 = .ok (.goto 4, 3) := by decide +kernel
theorem dX12_isSame_35 : decode cX12_isSame 35 = .ok (.iconst 0, 1) := by decide +kernel
theorem dX12_isSame_36 : decode cX12_isSame 36 = .ok (.istore_n 1, 1) := by decide +kernel
theorem dX12_isSame_37 : decode cX12_isSame 37 = .ok (.iinc 2 1, 3) := by decide +kernel
theorem dX12_isSame_40 : decode cX12_isSame 40 = .ok (.goto (-36), 3) := by decide +kernel
theorem dX12_isSame_43 : decode cX12_isSame 43 = .ok (.iload_n 1, 1) := by decide +kernel
theorem dX12_isSame_44 : decode cX12_isSame 44 = .ok (.ireturn, 1) := by decide +kernel
theorem dX12_path_0 : decode cX12_path 0 = .ok (.aload_n 0, 1) := by decide +kernel
theorem dX12_path_1 : decode cX12_path 1 = .ok (.iconst 0, 1) := by decide +kernel
theorem dX12_path_2 : decode cX12_path 2 = .ok (.putfield 73, 3) := by decide +kernel
theorem dX12_path_5 : decode cX12_path 5 = .ok (.aload_n 0, 1) := by decide +kernel
theorem dX12_path_6 : decode cX12_path 6 = .ok (.getfield 229, 3) := by decide +kernel
theorem dX12_path_9 : decode cX12_path 9 = .ok (.ifCond .eq 12, 3) := by decide +kernel
theorem dX12_path_12 : decode cX12_path 12 = .ok (.iload_n 2, 1) := by decide +kernel
theorem dX12_path_13 : decode cX12_path 13 = .ok (.iconst 0, 1) := by decide +kernel
theorem dX12_path_14 : decode cX12_path 14 = .ok (.iconst 3, 1) := by decide +kernel
theorem dX12_path_15 : decode cX12_path 15 = .ok (.invokestatic 94, 3) := by decide +kernel
theorem dX12_path_18 : decode cX12_path 18 = .ok (.ifCond .ne 9, 3) := by decide +kernel
theorem dX12_path_21 : decode cX12_path 21 = .ok (.aload_n 0, 1) := by decide +kernel
theorem dX12_path_22 : decode cX12_path 22 = .ok (.iconst 1, 1) := by decide +kernel
theorem dX12_path_23 : decode cX12_path 23 = .ok (.invokevirtual 213, 3) := by decide +kernel
theorem dX12_path_26 : decode cX12_path 26 = .ok (.ireturn, 1) := by decide +kernel
theorem dX12_path_27 : decode cX12_path 27 = .ok (.iload_n 1, 1) := by decide +kernel
theorem dX12_path_28 : decode cX12_path 28 = .ok (.iconst 1, 1) := by decide +kernel
theorem dX12_path_29 : decode cX12_path 29 = .ok (.bipush 8, 2) := by decide +kernel
theorem dX12_path_31 : decode cX12_path 31 = .ok (.invokestatic 94, 3) := by decide +kernel
theorem dX12_path_34 : decode cX12_path 34 = .ok (.ifCond .ne 9, 3) := by decide +kernel
theorem dX12_path_37 : decode cX12_path 37 = .ok (.aload_n 0, 1) := by decide +kernel
theorem dX12_path_38 : decode cX12_path 38 = .ok (.iconst 2, 1) := by decide +kernel
theorem dX12_path_39 : decode cX12_path 39 = .ok (.invokevirtual 213, 3) := by decide +kernel
theorem dX12_path_42 : decode cX12_path 42 = .ok (.ireturn, 1) := by decide +kernel
theorem dX12_path_43 : decode cX12_path 43 = .ok (.iconst 0, 1) := by decide +kernel
theorem dX12_path_44 : decode cX12_path 44 = .ok (.istore_n 3, 1) := by decide +kernel
theorem dX12_path_45 : decode cX12_path 45 = .ok (.iconst 0, 1) := by decide +kernel
theorem dX12_path_46 : decode cX12_path 46 = .ok (.istore 4, 2) := by decide +kernel
theorem dX12_path_48 : decode cX12_path 48 = .ok (.iconst 0, 1) := by decide +kernel
theorem dX12_path_49 : decode cX12_path 49 = .ok (.istore 5, 2) := by decide +kernel
theorem dX12_path_51 : decode cX12_path 51 = .ok (.aload_n 0, 1) := by decide +kernel
theorem dX12_path_52 : decode cX12_path 52 = .ok (.invokevirtual 359, 3) := by decide +kernel
theorem dX12_path_55 : decode cX12_path 55 = .ok (.iconst 0, 1) := by decide +kernel
theorem dX12_path_56 : decode cX12_path 56 = .ok (.istore 6, 2) := by decide +kernel
theorem dX12_path_58 : decode cX12_path 58 = .ok (.iload 6, 2) := by decide +kernel
theorem dX12_path_60 : decode cX12_path 60 = .ok (.iload_n 1, 1) := by decide +kernel
theorem dX12_path_61 : decode cX12_path 61 = .ok (.if_icmp .ge 52, 3) := by decide +kernel
theorem dX12_path_64 : decode cX12_path 64 = .ok (.iload_n 3, 1) := by decide +kernel
theorem dX12_path_65 : decode cX12_path 65 = .ok (.aload_n 0, 1) := by decide +kernel
theorem dX12_path_66 : decode cX12_path 66 = .ok (.iconst 0, 1) := by decide +kernel
theorem dX12_path_67 : decode cX12_path 67 = .ok (.invokevirtual 305, 3) := by decide +kernel
theorem dX12_path_70 : decode cX12_path 70 = .ok (.iadd, 1) := by decide +kernel
theorem dX12_path_71 : decode cX12_path 71 = .ok (.istore_n 3, 1) := by decide +kernel
theorem dX12_path_72 : decode cX12_path 72 = .ok (.aload_n 0, 1) := by decide +kernel
theorem dX12_path_73 : decode cX12_path 73 = .ok (.invokevirtual 380, 3) := by decide +kernel
theorem dX12_path_76 : decode cX12_path 76 = .ok (.iload 4, 2) := by decide +kernel
theorem dX12_path_78 : decode cX12_path 78 = .ok (.aload_n 0, 1) := by decide +kernel
theorem dX12_path_79 : decode cX12_path 79 = .ok (.iconst 1, 1) := by decide +kernel
theorem dX12_path_80 : decode cX12_path 80 = .ok (.invokevirtual 328, 3) := by decide +kernel
theorem dX12_path_83 : decode cX12_path 83 = .ok (.iadd, 1) := by decide +kernel
theorem dX12_path_84 : decode cX12_path 84 = .ok (.istore 4, 2) := by decide +kernel
theorem dX12_path_86 : decode cX12_path 86 = .ok (.iload 5, 2) := by decide +kernel
theorem dX12_path_88 : decode cX12_path 88 = .ok (.aload_n 0, 1) := by decide +kernel
theorem dX12_path_89 : decode cX12_path 89 = .ok (.invokevirtual 383, 3) := by decide +kernel
theorem dX12_path_92 : decode cX12_path 92 = .ok (.ifCond .eq 7, 3) := by decide +kernel
theorem dX12_path_95 : decode cX12_path 95 = .ok (.iconst 0, 1) := by decide +kernel
theorem dX12_path_96 : decode cX12_path 96 = .ok (.goto 4, 3) := by decide +kernel
theorem dX12_path_99 : decode cX12_path 99 = .ok (.iconst 1, 1) := by decide +kernel
theorem dX12_path_100 : decode cX12_path 100 = .ok (.iadd, 1) := by decide +kernel
theorem dX12_path_101 : decode cX12_path 101 = .ok (.istore 5, 2) := by decide +kernel
theorem dX12_path_103 : decode cX12_path 103 = .ok (.aload_n 0, 1) := by decide +kernel
theorem dX12_path_104 : decode cX12_path 104 = .ok (.invokevirtual 362, 3) := by decide +kernel
theorem dX12_path_107 : decode cX12_path 107 = .ok (.iinc 6 1, 3) := by decide +kernel
theorem dX12_path_110 : decode cX12_path 110 = .ok (.goto (-52), 3) := by decide +kernel
theorem dX12_path_113 : decode cX12_path 113 = .ok (.aload_n 0, 1) := by decide +kernel
theorem dX12_path_114 : decode cX12_path 114 = .ok (.iconst 0, 1) := by decide +kernel
theorem dX12_path_115 : decode cX12_path 115 = .ok (.invokevirtual 269, 3) := by decide +kernel
theorem dX12_path_118 : decode cX12_path 118 = .ok (.istore 6, 2) := by decide +kernel
theorem dX12_path_120 : decode cX12_path 120 = .ok (.aload_n 0, 1) := by decide +kernel
theorem dX12_path_121 : decode cX12_path 121 = .ok (.invokevirtual 365, 3) := by decide +kernel
theorem dX12_path_124 : decode cX12_path 124 = .ok (.aload_n 0, 1) := by decide +kernel
theorem dX12_path_125 : decode cX12_path 125 = .ok (.iload_n 2, 1) := by decide +kernel
theorem dX12_path_126 : decode cX12_path 126 = .ok (.ifCond .ne 7, 3) := by decide +kernel
theorem dX12_path_129 : decode cX12_path 129 = .ok (.iload_n 3, 1) := by decide +kernel
theorem dX12_path_130 : decode cX12_path 130 = .ok (.goto 25, 3) := by decide +kernel
theorem dX12_path_133 : decode cX12_path 133 = .ok (.iload_n 2, 1) := by decide +kernel
theorem dX12_path_134 : decode cX12_path 134 = .ok (.iconst 1, 1) := by decide +kernel
theorem dX12_path_135 : decode cX12_path 135 = .ok (.if_icmp .ne 8, 3) := by decide +kernel
theorem dX12_path_138 : decode cX12_path 138 = .ok (.iload 4, 2) := by decide +kernel
theorem dX12_path_140 : decode cX12_path 140 = .ok (.goto 15, 3) := by decide +kernel
theorem dX12_path_143 : decode cX12_path 143 = .ok (.iload_n 2, 1) := by decide +kernel
theorem dX12_path_144 : decode cX12_path 144 = .ok (.iconst 2, 1) := by decide +kernel
theorem dX12_path_145 : decode cX12_path 145 = .ok (.if_icmp .ne 8, 3) := by decide +kernel
theorem dX12_path_148 : decode cX12_path 148 = .ok (.iload 6, 2) := by decide +kernel
theorem dX12_path_150 : decode cX12_path 150 = .ok (.goto 5, 3) := by decide +kernel
theorem dX12_path_153 : decode cX12_path 153 = .ok (.iload 5, 2) := by decide +kernel
theorem dX12_path_155 : decode cX12_path 155 = .ok (.invokevirtual 233, 3) := by decide +kernel
theorem dX12_path_158 : decode cX12_path 158 = .ok (.ireturn, 1) := by decide +kernel
theorem dX12_reach_0 : decode cX12_reach 0 = .ok (.aload_n 0, 1) := by decide +kernel
theorem dX12_reach_1 : decode cX12_reach 1 = .ok (.iconst 0, 1) := by decide +kernel
theorem dX12_reach_2 : decode cX12_reach 2 = .ok (.putfield 73, 3) := by decide +kernel
theorem dX12_reach_5 : decode cX12_reach 5 = .ok (.aload_n 0, 1) := by decide +kernel
theorem dX12_reach_6 : decode cX12_reach 6 = .ok (.getfield 229, 3) := by decide +kernel
theorem dX12_reach_9 : decode cX12_reach 9 = .ok (.ifCond .ne 9, 3) := by decide +kernel
theorem dX12_reach_12 : decode cX12_reach 12 = .ok (.aload_n 0, 1) := by decide +kernel
theorem dX12_reach_13 : decode cX12_reach 13 = .ok (.iconst 1, 1) := by decide +kernel
theorem dX12_reach_14 : decode cX12_reach 14 = .ok (.invokevirtual 213, 3) := by decide +kernel
theorem dX12_reach_17 : decode cX12_reach 17 = .ok (.ireturn, 1) := by decide +kernel
theorem dX12_reach_18 : decode cX12_reach 18 = .ok (.iload_n 1, 1) := by decide +kernel
theorem dX12_reach_19 : decode cX12_reach 19 = .ok (.iconst 0, 1) := by decide +kernel
theorem dX12_reach_20 : decode cX12_reach 20 = .ok (.bipush 80, 2) := by decide +kernel
theorem dX12_reach_22 : decode cX12_reach 22 = .ok (.invokestatic 94, 3) := by decide +kernel
theorem dX12_reach_25 : decode cX12_reach 25 = .ok (.ifCond .ne 9, 3) := by decide +kernel
theorem dX12_reach_28 : decode cX12_reach 28 = .ok (.aload_n 0, 1) := by decide +kernel
theorem dX12_reach_29 : decode cX12_reach 29 = .ok (.iconst 2, 1) := by decide +kernel
theorem dX12_reach_30 : decode cX12_reach 30 = .ok (.invokevirtual 213, 3) := by decide +kernel
theorem dX12_reach_33 : decode cX12_reach 33 = .ok (.ireturn, 1) := by decide +kernel
theorem dX12_reach_34 : decode cX12_reach 34 = .ok (.bipush (-2), 2) := by decide +kernel
theorem dX12_reach_36 : decode cX12_reach 36 = .ok (.istore_n 2, 1) := by decide +kernel
theorem dX12_reach_37 : decode cX12_reach 37 = .ok (.aload_n 0, 1) := by decide +kernel
theorem dX12_reach_38 : decode cX12_reach 38 = .ok (.invokevirtual 359, 3) := by decide +kernel
theorem dX12_reach_41 : decode cX12_reach 41 = .ok (.iconst 0, 1) := by decide +kernel
theorem dX12_reach_42 : decode cX12_reach 42 = .ok (.istore_n 3, 1) := by decide +kernel
theorem dX12_reach_43 : decode cX12_reach 43 = .ok (.iload_n 3, 1) := by decide +kernel
theorem dX12_reach_44 : decode cX12_reach 44 = .ok (.bipush 8, 2) := by decide +kernel
theorem dX12_reach_46 : decode cX12_reach 46 = .ok (.if_icmp .gt 49, 3) := by decide +kernel
theorem dX12_reach_49 : decode cX12_reach 49 = .ok (.iload_n 2, 1) := by decide +kernel
theorem dX12_reach_50 : decode cX12_reach 50 = .ok (.bipush (-2), 2) := by decide +kernel
theorem dX12_reach_52 : decode cX12_reach 52 = .ok (.if_icmp .ne 43, 3) := by decide +kernel
theorem dX12_reach_55 : decode cX12_reach 55 = .ok (.aload_n 0, 1) := by decide +kernel
theorem dX12_reach_56 : decode cX12_reach 56 = .ok (.iconst 0, 1) := by decide +kernel
theorem dX12_reach_57 : decode cX12_reach 57 = .ok (.invokevirtual 269, 3) := by decide +kernel
theorem dX12_reach_60 : decode cX12_reach 60 = .ok (.iload_n 1, 1) := by decide +kernel
theorem dX12_reach_61 : decode cX12_reach 61 = .ok (.if_icmp .gt 5, 3) := by decide +kernel
theorem dX12_reach_64 : decode cX12_reach 64 = .ok (.iload_n 3, 1) := by decide +kernel
theorem dX12_reach_65 : decode cX12_reach 65 = .ok (.istore_n 2, 1) := by decide +kernel
theorem dX12_reach_66 : decode cX12_reach 66 = .ok (.aload_n 0, 1) := by decide +kernel
theorem dX12_reach_67 : decode cX12_reach 67 = .ok (.iconst 0, 1) := by decide +kernel
theorem dX12_reach_68 : decode cX12_reach 68 = .ok (.invokevirtual 305, 3) := by decide +kernel
theorem dX12_reach_71 : decode cX12_reach 71 = .ok (.istore 4, 2) := by decide +kernel
theorem dX12_reach_73 : decode cX12_reach 73 = .ok (.iload 4, 2) := by decide +kernel
theorem dX12_reach_75 : decode cX12_reach 75 = .ok (.ldc_w 282, 3) := by decide +kernel
theorem dX12_reach_78 : decode cX12_reach 78 = .ok (.if_icmp .le 7, 3) := by decide +kernel
theorem dX12_reach_81 : decode cX12_reach 81 = .ok (.aload_n 0, 1) := by decide +kernel
theorem dX12_reach_82 : decode cX12_reach 82 = .ok (.invokevirtual 380, 3) := by decide +kernel
theorem dX12_reach_85 : decode cX12_reach 85 = .ok (.aload_n 0, 1) := by decide +kernel
theorem dX12_reach_86 : decode cX12_reach 86 = .ok (.invokevirtual 362, 3) := by decide +kernel
theorem dX12_reach_89 : decode cX12_reach 89 = .ok (.iinc 3 1, 3) := by decide +kernel
theorem dX12_reach_92 : decode cX12_reach 92 = .ok (.goto (-49), 3) := by decide +kernel
theorem dX12_reach_95 : decode cX12_reach 95 = .ok (.aload_n 0, 1) := by decide +kernel
theorem dX12_reach_96 : decode cX12_reach 96 = .ok (.invokevirtual 365, 3) := by decide +kernel
theorem dX12_reach_99 : decode cX12_reach 99 = .ok (.aload_n 0, 1) := by decide +kernel
theorem dX12_reach_100 : decode cX12_reach 100 = .ok (.iload_n 2, 1) := by decide +kernel
theorem dX12_reach_101 : decode cX12_reach 101 = .ok (.invokevirtual 233, 3) := by decide +kernel
theorem dX12_reach_104 : decode cX12_reach 104 = .ok (.ireturn, 1) := by decide +kernel
theorem dX12_next_0 : decode cX12_next 0 = .ok (.aload_n 0, 1) := by decide +kernel
theorem dX12_next_1 : decode cX12_next 1 = .ok (.iconst 0, 1) := by decide +kernel
theorem dX12_next_2 : decode cX12_next 2 = .ok (.putfield 73, 3) := by decide +kernel
theorem dX12_next_5 : decode cX12_next 5 = .ok (.aload_n 0, 1) := by decide +kernel
theorem dX12_next_6 : decode cX12_next 6 = .ok (.getfield 229, 3) := by decide +kernel
theorem dX12_next_9 : decode cX12_next 9 = .ok (.ifCond .ne 9, 3) := by decide +kernel
theorem dX12_next_12 : decode cX12_next 12 = .ok (.aload_n 0, 1) := by decide +kernel
theorem dX12_next_13 : decode cX12_next 13 = .ok (.iconst 1, 1) := by decide +kernel
theorem dX12_next_14 : decode cX12_next 14 = .ok (.invokevirtual 213, 3) := by decide +kernel
theorem dX12_next_17 : decode cX12_next 17 = .ok (.ireturn, 1) := by decide +kernel
theorem dX12_next_18 : decode cX12_next 18 = .ok (.aload_n 0, 1) := by decide +kernel
theorem dX12_next_19 : decode cX12_next 19 = .ok (.invokevirtual 359, 3) := by decide +kernel
theorem dX12_next_22 : decode cX12_next 22 = .ok (.aload_n 0, 1) := by decide +kernel
theorem dX12_next_23 : decode cX12_next 23 = .ok (.invokevirtual 362, 3) := by decide +kernel
theorem dX12_next_26 : decode cX12_next 26 = .ok (.aload_n 0, 1) := by decide +kernel
theorem dX12_next_27 : decode cX12_next 27 = .ok (.iconst 0, 1) := by decide +kernel
theorem dX12_next_28 : decode cX12_next 28 = .ok (.invokevirtual 305, 3) := by decide +kernel
theorem dX12_next_31 : decode cX12_next 31 = .ok (.istore_n 1, 1) := by decide +kernel
theorem dX12_next_32 : decode cX12_next 32 = .ok (.aload_n 0, 1) := by decide +kernel
theorem dX12_next_33 : decode cX12_next 33 = .ok (.invokevirtual 365, 3) := by decide +kernel
theorem dX12_next_36 : decode cX12_next 36 = .ok (.aload_n 0, 1) := by decide +kernel
theorem dX12_next_37 : decode cX12_next 37 = .ok (.iload_n 1, 1) := by decide +kernel
theorem dX12_next_38 : decode cX12_next 38 = .ok (.invokevirtual 233, 3) := by decide +kernel
theorem dX12_next_41 : decode cX12_next 41 = .ok (.ireturn, 1) := by decide +kernel
theorem dX12_remembers_0 : decode cX12_remembers 0 = .ok (.aload_n 0, 1) := by decide +kernel
theorem dX12_remembers_1 : decode cX12_remembers 1 = .ok (.getfield 226, 3) := by decide +kernel
theorem dX12_remembers_4 : decode cX12_remembers 4 = .ok (.bipush 10, 2) := by decide +kernel
theorem dX12_remembers_6 : decode cX12_remembers 6 = .ok (.if_icmp .ne 49, 3) := by decide +kernel
theorem dX12_remembers_9 : decode cX12_remembers 9 = .ok (.aload_n 0, 1) := by decide +kernel
theorem dX12_remembers_10 : decode cX12_remembers 10 = .ok (.dup, 1) := by decide +kernel
theorem dX12_remembers_11 : decode cX12_remembers 11 = .ok (.getfield 226, 3) := by decide +kernel
theorem dX12_remembers_14 : decode cX12_remembers 14 = .ok (.iconst 1, 1) := by decide +kernel
theorem dX12_remembers_15 : decode cX12_remembers 15 = .ok (.isub, 1) := by decide +kernel
theorem dX12_remembers_16 : decode cX12_remembers 16 = .ok (.putfield 226, 3) := by decide +kernel
theorem dX12_remembers_19 : decode cX12_remembers 19 = .ok (.iconst 0, 1) := by decide +kernel
theorem dX12_remembers_20 : decode cX12_remembers 20 = .ok (.istore_n 1, 1) := by decide +kernel
theorem dX12_remembers_21 : decode cX12_remembers 21 = .ok (.iload_n 1, 1) := by decide +kernel
theorem dX12_remembers_22 : decode cX12_remembers 22 = .ok (.aload_n 0, 1) := by decide +kernel
theorem dX12_remembers_23 : decode cX12_remembers 23 = .ok (.getfield 226, 3) := by decide +kernel
theorem dX12_remembers_26 : decode cX12_remembers 26 = .ok (.sipush 534, 3) := by decide +kernel
theorem dX12_remembers_29 : decode cX12_remembers 29 = .ok (.imul, 1) := by decide +kernel
theorem dX12_remembers_30 : decode cX12_remembers 30 = .ok (.if_icmp .ge 25, 3) := by decide +kernel
theorem dX12_remembers_33 : decode cX12_remembers 33 = .ok (.aload_n 0, 1) := by decide +kernel
theorem dX12_remembers_34 : decode cX12_remembers 34 = .ok (.getfield 26, 3) := by decide +kernel
theorem dX12_remembers_37 : decode cX12_remembers 37 = .ok (.iload_n 1, 1) := by decide +kernel
theorem dX12_remembers_38 : decode cX12_remembers 38 = .ok (.aload_n 0, 1) := by decide +kernel
theorem dX12_remembers_39 : decode cX12_remembers 39 = .ok (.getfield 26, 3) := by decide +kernel
theorem dX12_remembers_42 : decode cX12_remembers 42 = .ok (.iload_n 1, 1) := by decide +kernel
theorem dX12_remembers_43 : decode cX12_remembers 43 = .ok (.sipush 534, 3) := by decide +kernel
theorem dX12_remembers_46 : decode cX12_remembers 46 = .ok (.iadd, 1) := by decide +kernel
theorem dX12_remembers_47 : decode cX12_remembers 47 = .ok (.iaload, 1) := by decide +kernel
theorem dX12_remembers_48 : decode cX12_remembers 48 = .ok (.iastore, 1) := by decide +kernel
theorem dX12_remembers_49 : decode cX12_remembers 49 = .ok (.iinc 1 1, 3) := by decide +kernel
theorem dX12_remembers_52 : decode cX12_remembers 52 = .ok (.goto (-31), 3) := by decide +kernel
theorem dX12_remembers_55 : decode cX12_remembers 55 = .ok (.iconst 0, 1) := by decide +kernel
theorem dX12_remembers_56 : decode cX12_remembers 56 = .ok (.istore_n 1, 1) := by decide +kernel
theorem dX12_remembers_57 : decode cX12_remembers 57 = .ok (.iload_n 1, 1) := by decide +kernel
theorem dX12_remembers_58 : decode cX12_remembers 58 = .ok (.sipush 534, 3) := by decide +kernel
theorem dX12_remembers_61 : decode cX12_remembers 61 = .ok (.if_icmp .ge 30, 3) := by decide +kernel
theorem dX12_remembers_64 : decode cX12_remembers 64 = .ok (.aload_n 0, 1) := by decide +kernel
theorem dX12_remembers_65 : decode cX12_remembers 65 = .ok (.getfield 26, 3) := by decide +kernel
theorem dX12_remembers_68 : decode cX12_remembers 68 = .ok (.aload_n 0, 1) := by decide +kernel
theorem dX12_remembers_69 : decode cX12_remembers 69 = .ok (.getfield 226, 3) := by decide +kernel
theorem dX12_remembers_72 : decode cX12_remembers 72 = .ok (.sipush 534, 3) := by decide +kernel
theorem dX12_remembers_75 : decode cX12_remembers 75 = .ok (.imul, 1) := by decide +kernel
theorem dX12_remembers_76 : decode cX12_remembers 76 = .ok (.iload_n 1, 1) := by decide +kernel
theorem dX12_remembers_77 : decode cX12_remembers 77 = .ok (.iadd, 1) := by decide +kernel
theorem dX12_remembers_78 : decode cX12_remembers 78 = .ok (.aload_n 0, 1) := by decide +kernel
theorem dX12_remembers_79 : decode cX12_remembers 79 = .ok (.getfield 17, 3) := by decide +kernel
theorem dX12_remembers_82 : decode cX12_remembers 82 = .ok (.iload_n 1, 1) := by decide +kernel
theorem dX12_remembers_83 : decode cX12_remembers 83 = .ok (.iaload, 1) := by decide +kernel
theorem dX12_remembers_84 : decode cX12_remembers 84 = .ok (.iastore, 1) := by decide +kernel
theorem dX12_remembers_85 : decode cX12_remembers 85 = .ok (.iinc 1 1, 3) := by decide +kernel
theorem dX12_remembers_88 : decode cX12_remembers 88 = .ok (.goto (-31), 3) := by decide +kernel
theorem dX12_remembers_91 : decode cX12_remembers 91 = .ok (.aload_n 0, 1) := by decide +kernel
theorem dX12_remembers_92 : decode cX12_remembers 92 = .ok (.dup, 1) := by decide +kernel
theorem dX12_remembers_93 : decode cX12_remembers 93 = .ok (.getfield 226, 3) := by decide +kernel
theorem dX12_remembers_96 : decode cX12_remembers 96 = .ok (.iconst 1, 1) := by decide +kernel
theorem dX12_remembers_97 : decode cX12_remembers 97 = .ok (.iadd, 1) := by decide +kernel
theorem dX12_remembers_98 : decode cX12_remembers 98 = .ok (.putfield 226, 3) := by decide +kernel
theorem dX12_remembers_101 : decode cX12_remembers 101 = .ok (.return_, 1) := by decide +kernel
theorem dX12_changes_0 : decode cX12_changes 0 = .ok (.aload_n 0, 1) := by decide +kernel
theorem dX12_changes_1 : decode cX12_changes 1 = .ok (.invokevirtual 386, 3) := by decide +kernel
theorem dX12_changes_4 : decode cX12_changes 4 = .ok (.aload_n 0, 1) := by decide +kernel
theorem dX12_changes_5 : decode cX12_changes 5 = .ok (.getfield 17, 3) := by decide +kernel
theorem dX12_changes_8 : decode cX12_changes 8 = .ok (.iload_n 1, 1) := by decide +kernel
theorem dX12_changes_9 : decode cX12_changes 9 = .ok (.iaload, 1) := by decide +kernel
theorem dX12_changes_10 : decode cX12_changes 10 = .ok (.istore_n 3, 1) := by decide +kernel
theorem dX12_changes_11 : decode cX12_changes 11 = .ok (.aload_n 0, 1) := by decide +kernel
theorem dX12_changes_12 : decode cX12_changes 12 = .ok (.getfield 17, 3) := by decide +kernel
theorem dX12_changes_15 : decode cX12_changes 15 = .ok (.iload_n 1, 1) := by decide +kernel
theorem dX12_changes_16 : decode cX12_changes 16 = .ok (.iload_n 2, 1) := by decide +kernel
theorem dX12_changes_17 : decode cX12_changes 17 = .ok (.iastore, 1) := by decide +kernel
theorem dX12_changes_18 : decode cX12_changes 18 = .ok (.aload_n 0, 1) := by decide +kernel
theorem dX12_changes_19 : decode cX12_changes 19 = .ok (.iload_n 3, 1) := by decide +kernel
theorem dX12_changes_20 : decode cX12_changes 20 = .ok (.invokevirtual 233, 3) := by decide +kernel
theorem dX12_changes_23 : decode cX12_changes 23 = .ok (.ireturn, 1) := by decide +kernel
theorem dX12_price_0 : decode cX12_price 0 = .ok (.aload_n 0, 1) := by decide +kernel
theorem dX12_price_1 : decode cX12_price 1 = .ok (.iconst 0, 1) := by decide +kernel
theorem dX12_price_2 : decode cX12_price 2 = .ok (.putfield 73, 3) := by decide +kernel
theorem dX12_price_5 : decode cX12_price 5 = .ok (.aload_n 0, 1) := by decide +kernel
theorem dX12_price_6 : decode cX12_price 6 = .ok (.iload_n 1, 1) := by decide +kernel
theorem dX12_price_7 : decode cX12_price 7 = .ok (.invokevirtual 272, 3) := by decide +kernel
theorem dX12_price_10 : decode cX12_price 10 = .ok (.ifCond .ne 9, 3) := by decide +kernel
theorem dX12_price_13 : decode cX12_price 13 = .ok (.aload_n 0, 1) := by decide +kernel
theorem dX12_price_14 : decode cX12_price 14 = .ok (.iconst 1, 1) := by decide +kernel
theorem dX12_price_15 : decode cX12_price 15 = .ok (.invokevirtual 213, 3) := by decide +kernel
theorem dX12_price_18 : decode cX12_price 18 = .ok (.ireturn, 1) := by decide +kernel
theorem dX12_price_19 : decode cX12_price 19 = .ok (.iload_n 2, 1) := by decide +kernel
theorem dX12_price_20 : decode cX12_price 20 = .ok (.invokestatic 275, 3) := by decide +kernel
theorem dX12_price_23 : decode cX12_price 23 = .ok (.ifCond .eq 17, 3) := by decide +kernel
theorem dX12_price_26 : decode cX12_price 26 = .ok (.aload_n 0, 1) := by decide +kernel
theorem dX12_price_27 : decode cX12_price 27 = .ok (.bipush 7, 2) := by decide +kernel
theorem dX12_price_29 : decode cX12_price 29 = .ok (.iload_n 1, 1) := by decide +kernel
theorem dX12_price_30 : decode cX12_price 30 = .ok (.imul, 1) := by decide +kernel
theorem dX12_price_31 : decode cX12_price 31 = .ok (.iconst 1, 1) := by decide +kernel
theorem dX12_price_32 : decode cX12_price 32 = .ok (.iadd, 1) := by decide +kernel
theorem dX12_price_33 : decode cX12_price 33 = .ok (.iload_n 2, 1) := by decide +kernel
theorem dX12_price_34 : decode cX12_price 34 = .ok (.invokevirtual 389, 3) := by decide +kernel
theorem dX12_price_37 : decode cX12_price 37 = .ok (.goto 8, 3) := by decide +kernel
theorem dX12_price_40 : decode cX12_price 40 = .ok (.aload_n 0, 1) := by decide +kernel
theorem dX12_price_41 : decode cX12_price 41 = .ok (.iconst 2, 1) := by decide +kernel
theorem dX12_price_42 : decode cX12_price 42 = .ok (.invokevirtual 213, 3) := by decide +kernel
theorem dX12_price_45 : decode cX12_price 45 = .ok (.ireturn, 1) := by decide +kernel
theorem dX12_lay_0 : decode cX12_lay 0 = .ok (.aload_n 0, 1) := by decide +kernel
theorem dX12_lay_1 : decode cX12_lay 1 = .ok (.iconst 0, 1) := by decide +kernel
theorem dX12_lay_2 : decode cX12_lay 2 = .ok (.putfield 73, 3) := by decide +kernel
theorem dX12_lay_5 : decode cX12_lay 5 = .ok (.aload_n 0, 1) := by decide +kernel
theorem dX12_lay_6 : decode cX12_lay 6 = .ok (.getfield 229, 3) := by decide +kernel
theorem dX12_lay_9 : decode cX12_lay 9 = .ok (.ifCond .ne 9, 3) := by decide +kernel
theorem dX12_lay_12 : decode cX12_lay 12 = .ok (.aload_n 0, 1) := by decide +kernel
theorem dX12_lay_13 : decode cX12_lay 13 = .ok (.iconst 1, 1) := by decide +kernel
theorem dX12_lay_14 : decode cX12_lay 14 = .ok (.invokevirtual 213, 3) := by decide +kernel
theorem dX12_lay_17 : decode cX12_lay 17 = .ok (.ireturn, 1) := by decide +kernel
theorem dX12_lay_18 : decode cX12_lay 18 = .ok (.aload_n 0, 1) := by decide +kernel
theorem dX12_lay_19 : decode cX12_lay 19 = .ok (.invokevirtual 386, 3) := by decide +kernel
theorem dX12_lay_22 : decode cX12_lay 22 = .ok (.aload_n 0, 1) := by decide +kernel
theorem dX12_lay_23 : decode cX12_lay 23 = .ok (.iload_n 1, 1) := by decide +kernel
theorem dX12_lay_24 : decode cX12_lay 24 = .ok (.invokevirtual 305, 3) := by decide +kernel
theorem dX12_lay_27 : decode cX12_lay 27 = .ok (.istore_n 2, 1) := by decide +kernel
theorem dX12_lay_28 : decode cX12_lay 28 = .ok (.iload_n 2, 1) := by decide +kernel
theorem dX12_lay_29 : decode cX12_lay 29 = .ok (.ldc_w 282, 3) := by decide +kernel
theorem dX12_lay_32 : decode cX12_lay 32 = .ok (.if_icmp .le 7, 3) := by decide +kernel
theorem dX12_lay_35 : decode cX12_lay 35 = .ok (.aload_n 0, 1) := by decide +kernel
theorem dX12_lay_36 : decode cX12_lay 36 = .ok (.invokevirtual 380, 3) := by decide +kernel
theorem dX12_lay_39 : decode cX12_lay 39 = .ok (.aload_n 0, 1) := by decide +kernel
theorem dX12_lay_40 : decode cX12_lay 40 = .ok (.aload_n 0, 1) := by decide +kernel
theorem dX12_lay_41 : decode cX12_lay 41 = .ok (.invokevirtual 257, 3) := by decide +kernel
theorem dX12_lay_44 : decode cX12_lay 44 = .ok (.invokevirtual 233, 3) := by decide +kernel
theorem dX12_lay_47 : decode cX12_lay 47 = .ok (.ireturn, 1) := by decide +kernel
theorem dX12_quality_0 : decode cX12_quality 0 = .ok (.aload_n 0, 1) := by decide +kernel
theorem dX12_quality_1 : decode cX12_quality 1 = .ok (.iconst 0, 1) := by decide +kernel
theorem dX12_quality_2 : decode cX12_quality 2 = .ok (.putfield 73, 3) := by decide +kernel
theorem dX12_quality_5 : decode cX12_quality 5 = .ok (.aload_n 0, 1) := by decide +kernel
theorem dX12_quality_6 : decode cX12_quality 6 = .ok (.iload_n 1, 1) := by decide +kernel
theorem dX12_quality_7 : decode cX12_quality 7 = .ok (.invokevirtual 272, 3) := by decide +kernel
theorem dX12_quality_10 : decode cX12_quality 10 = .ok (.ifCond .ne 9, 3) := by decide +kernel
theorem dX12_quality_13 : decode cX12_quality 13 = .ok (.aload_n 0, 1) := by decide +kernel
theorem dX12_quality_14 : decode cX12_quality 14 = .ok (.iconst 1, 1) := by decide +kernel
theorem dX12_quality_15 : decode cX12_quality 15 = .ok (.invokevirtual 213, 3) := by decide +kernel
theorem dX12_quality_18 : decode cX12_quality 18 = .ok (.ireturn, 1) := by decide +kernel
theorem dX12_quality_19 : decode cX12_quality 19 = .ok (.iload_n 2, 1) := by decide +kernel
theorem dX12_quality_20 : decode cX12_quality 20 = .ok (.iconst 0, 1) := by decide +kernel
theorem dX12_quality_21 : decode cX12_quality 21 = .ok (.bipush 99, 2) := by decide +kernel
theorem dX12_quality_23 : decode cX12_quality 23 = .ok (.invokestatic 94, 3) := by decide +kernel
theorem dX12_quality_26 : decode cX12_quality 26 = .ok (.ifCond .eq 17, 3) := by decide +kernel
theorem dX12_quality_29 : decode cX12_quality 29 = .ok (.aload_n 0, 1) := by decide +kernel
theorem dX12_quality_30 : decode cX12_quality 30 = .ok (.bipush 7, 2) := by decide +kernel
theorem dX12_quality_32 : decode cX12_quality 32 = .ok (.iload_n 1, 1) := by decide +kernel
theorem dX12_quality_33 : decode cX12_quality 33 = .ok (.imul, 1) := by decide +kernel
theorem dX12_quality_34 : decode cX12_quality 34 = .ok (.iconst 5, 1) := by decide +kernel
theorem dX12_quality_35 : decode cX12_quality 35 = .ok (.iadd, 1) := by decide +kernel
theorem dX12_quality_36 : decode cX12_quality 36 = .ok (.iload_n 2, 1) := by decide +kernel
theorem dX12_quality_37 : decode cX12_quality 37 = .ok (.invokevirtual 389, 3) := by decide +kernel
theorem dX12_quality_40 : decode cX12_quality 40 = .ok (.goto 8, 3) := by decide +kernel
theorem dX12_quality_43 : decode cX12_quality 43 = .ok (.aload_n 0, 1) := by decide +kernel
theorem dX12_quality_44 : decode cX12_quality 44 = .ok (.iconst 2, 1) := by decide +kernel
theorem dX12_quality_45 : decode cX12_quality 45 = .ok (.invokevirtual 213, 3) := by decide +kernel
theorem dX12_quality_48 : decode cX12_quality 48 = .ok (.ireturn, 1) := by decide +kernel
theorem dX12_become_0 : decode cX12_become 0 = .ok (.aload_n 0, 1) := by decide +kernel
theorem dX12_become_1 : decode cX12_become 1 = .ok (.iconst 0, 1) := by decide +kernel
theorem dX12_become_2 : decode cX12_become 2 = .ok (.putfield 73, 3) := by decide +kernel
theorem dX12_become_5 : decode cX12_become 5 = .ok (.aload_n 0, 1) := by decide +kernel
theorem dX12_become_6 : decode cX12_become 6 = .ok (.getfield 229, 3) := by decide +kernel
theorem dX12_become_9 : decode cX12_become 9 = .ok (.ifCond .eq 12, 3) := by decide +kernel
theorem dX12_become_12 : decode cX12_become 12 = .ok (.iload_n 1, 1) := by decide +kernel
theorem dX12_become_13 : decode cX12_become 13 = .ok (.iconst 0, 1) := by decide +kernel
theorem dX12_become_14 : decode cX12_become 14 = .ok (.iconst 3, 1) := by decide +kernel
theorem dX12_become_15 : decode cX12_become 15 = .ok (.invokestatic 94, 3) := by decide +kernel
theorem dX12_become_18 : decode cX12_become 18 = .ok (.ifCond .ne 9, 3) := by decide +kernel
theorem dX12_become_21 : decode cX12_become 21 = .ok (.aload_n 0, 1) := by decide +kernel
theorem dX12_become_22 : decode cX12_become 22 = .ok (.iconst 1, 1) := by decide +kernel
theorem dX12_become_23 : decode cX12_become 23 = .ok (.invokevirtual 213, 3) := by decide +kernel
theorem dX12_become_26 : decode cX12_become 26 = .ok (.ireturn, 1) := by decide +kernel
theorem dX12_become_27 : decode cX12_become 27 = .ok (.iload_n 2, 1) := by decide +kernel
theorem dX12_become_28 : decode cX12_become 28 = .ok (.iconst 0, 1) := by decide +kernel
theorem dX12_become_29 : decode cX12_become 29 = .ok (.iload_n 1, 1) := by decide +kernel
theorem dX12_become_30 : decode cX12_become 30 = .ok (.iconst 2, 1) := by decide +kernel
theorem dX12_become_31 : decode cX12_become 31 = .ok (.if_icmp .ge 8, 3) := by decide +kernel
theorem dX12_become_34 : decode cX12_become 34 = .ok (.bipush 50, 2) := by decide +kernel
theorem dX12_become_36 : decode cX12_become 36 = .ok (.goto 15, 3) := by decide +kernel
theorem dX12_become_39 : decode cX12_become 39 = .ok (.iload_n 1, 1) := by decide +kernel
theorem dX12_become_40 : decode cX12_become 40 = .ok (.iconst 2, 1) := by decide +kernel
theorem dX12_become_41 : decode cX12_become 41 = .ok (.if_icmp .ne 8, 3) := by decide +kernel
theorem dX12_become_44 : decode cX12_become 44 = .ok (.bipush 100, 2) := by decide +kernel
theorem dX12_become_46 : decode cX12_become 46 = .ok (.goto 5, 3) := by decide +kernel
theorem dX12_become_49 : decode cX12_become 49 = .ok (.bipush 99, 2) := by decide +kernel
theorem dX12_become_51 : decode cX12_become 51 = .ok (.invokestatic 94, 3) := by decide +kernel
theorem dX12_become_54 : decode cX12_become 54 = .ok (.ifCond .eq 15, 3) := by decide +kernel
theorem dX12_become_57 : decode cX12_become 57 = .ok (.aload_n 0, 1) := by decide +kernel
theorem dX12_become_58 : decode cX12_become 58 = .ok (.bipush 28, 2) := by decide +kernel
theorem dX12_become_60 : decode cX12_become 60 = .ok (.iload_n 1, 1) := by decide +kernel
theorem dX12_become_61 : decode cX12_become 61 = .ok (.iadd, 1) := by decide +kernel
theorem dX12_become_62 : decode cX12_become 62 = .ok (.iload_n 2, 1) := by decide +kernel
theorem dX12_become_63 : decode cX12_become 63 = .ok (.invokevirtual 389, 3) := by decide +kernel
theorem dX12_become_66 : decode cX12_become 66 = .ok (.goto 8, 3) := by decide +kernel
theorem dX12_become_69 : decode cX12_become 69 = .ok (.aload_n 0, 1) := by decide +kernel
theorem dX12_become_70 : decode cX12_become 70 = .ok (.iconst 2, 1) := by decide +kernel
theorem dX12_become_71 : decode cX12_become 71 = .ok (.invokevirtual 213, 3) := by decide +kernel
theorem dX12_become_74 : decode cX12_become 74 = .ok (.ireturn, 1) := by decide +kernel
theorem dX12_year_0 : decode cX12_year 0 = .ok (.aload_n 0, 1) := by decide +kernel
theorem dX12_year_1 : decode cX12_year 1 = .ok (.iconst 0, 1) := by decide +kernel
theorem dX12_year_2 : decode cX12_year 2 = .ok (.putfield 73, 3) := by decide +kernel
theorem dX12_year_5 : decode cX12_year 5 = .ok (.aload_n 0, 1) := by decide +kernel
theorem dX12_year_6 : decode cX12_year 6 = .ok (.getfield 229, 3) := by decide +kernel
theorem dX12_year_9 : decode cX12_year 9 = .ok (.ifCond .ne 9, 3) := by decide +kernel
theorem dX12_year_12 : decode cX12_year 12 = .ok (.aload_n 0, 1) := by decide +kernel
theorem dX12_year_13 : decode cX12_year 13 = .ok (.iconst 1, 1) := by decide +kernel
theorem dX12_year_14 : decode cX12_year 14 = .ok (.invokevirtual 213, 3) := by decide +kernel
theorem dX12_year_17 : decode cX12_year 17 = .ok (.ireturn, 1) := by decide +kernel
theorem dX12_year_18 : decode cX12_year 18 = .ok (.aload_n 0, 1) := by decide +kernel
theorem dX12_year_19 : decode cX12_year 19 = .ok (.getfield 17, 3) := by decide +kernel
theorem dX12_year_22 : decode cX12_year 22 = .ok (.bipush 32, 2) := by decide +kernel
theorem dX12_year_24 : decode cX12_year 24 = .ok (.iaload, 1) := by decide +kernel
theorem dX12_year_25 : decode cX12_year 25 = .ok (.bipush 99, 2) := by decide +kernel
theorem dX12_year_27 : decode cX12_year 27 = .ok (.if_icmp .eq 14, 3) := by decide +kernel
theorem dX12_year_30 : decode cX12_year 30 = .ok (.iload_n 1, 1) := by decide +kernel
theorem dX12_year_31 : decode cX12_year 31 = .ok (.ifCond .ne 16, 3) := by decide +kernel
theorem dX12_year_34 : decode cX12_year 34 = .ok (.aload_n 0, 1) := by decide +kernel
theorem dX12_year_35 : decode cX12_year 35 = .ok (.invokevirtual 266, 3) := by decide +kernel
theorem dX12_year_38 : decode cX12_year 38 = .ok (.ifCond .ne 9, 3) := by decide +kernel
theorem dX12_year_41 : decode cX12_year 41 = .ok (.aload_n 0, 1) := by decide +kernel
theorem dX12_year_42 : decode cX12_year 42 = .ok (.iconst 5, 1) := by decide +kernel
theorem dX12_year_43 : decode cX12_year 43 = .ok (.invokevirtual 213, 3) := by decide +kernel
theorem dX12_year_46 : decode cX12_year 46 = .ok (.ireturn, 1) := by decide +kernel
theorem dX12_year_47 : decode cX12_year 47 = .ok (.aload_n 0, 1) := by decide +kernel
theorem dX12_year_48 : decode cX12_year 48 = .ok (.invokevirtual 386, 3) := by decide +kernel
theorem dX12_year_51 : decode cX12_year 51 = .ok (.bipush 34, 2) := by decide +kernel
theorem dX12_year_53 : decode cX12_year 53 = .ok (.iconst 5, 1) := by decide +kernel
theorem dX12_year_54 : decode cX12_year 54 = .ok (.aload_n 0, 1) := by decide +kernel
theorem dX12_year_55 : decode cX12_year 55 = .ok (.getfield 17, 3) := by decide +kernel
theorem dX12_year_58 : decode cX12_year 58 = .ok (.bipush 32, 2) := by decide +kernel
theorem dX12_year_60 : decode cX12_year 60 = .ok (.iaload, 1) := by decide +kernel
theorem dX12_year_61 : decode cX12_year 61 = .ok (.imul, 1) := by decide +kernel
theorem dX12_year_62 : decode cX12_year 62 = .ok (.iadd, 1) := by decide +kernel
theorem dX12_year_63 : decode cX12_year 63 = .ok (.istore_n 2, 1) := by decide +kernel
theorem dX12_year_64 : decode cX12_year 64 = .ok (.aload_n 0, 1) := by decide +kernel
theorem dX12_year_65 : decode cX12_year 65 = .ok (.getfield 17, 3) := by decide +kernel
theorem dX12_year_68 : decode cX12_year 68 = .ok (.iload_n 2, 1) := by decide +kernel
theorem dX12_year_69 : decode cX12_year 69 = .ok (.aload_n 0, 1) := by decide +kernel
theorem dX12_year_70 : decode cX12_year 70 = .ok (.invokevirtual 257, 3) := by decide +kernel
theorem dX12_year_73 : decode cX12_year 73 = .ok (.iastore, 1) := by decide +kernel
theorem dX12_year_74 : decode cX12_year 74 = .ok (.aload_n 0, 1) := by decide +kernel
theorem dX12_year_75 : decode cX12_year 75 = .ok (.getfield 17, 3) := by decide +kernel
theorem dX12_year_78 : decode cX12_year 78 = .ok (.iload_n 2, 1) := by decide +kernel
theorem dX12_year_79 : decode cX12_year 79 = .ok (.iconst 1, 1) := by decide +kernel
theorem dX12_year_80 : decode cX12_year 80 = .ok (.iadd, 1) := by decide +kernel
theorem dX12_year_81 : decode cX12_year 81 = .ok (.aload_n 0, 1) := by decide +kernel
theorem dX12_year_82 : decode cX12_year 82 = .ok (.invokevirtual 260, 3) := by decide +kernel
theorem dX12_year_85 : decode cX12_year 85 = .ok (.iastore, 1) := by decide +kernel
theorem dX12_year_86 : decode cX12_year 86 = .ok (.aload_n 0, 1) := by decide +kernel
theorem dX12_year_87 : decode cX12_year 87 = .ok (.getfield 17, 3) := by decide +kernel
theorem dX12_year_90 : decode cX12_year 90 = .ok (.iload_n 2, 1) := by decide +kernel
theorem dX12_year_91 : decode cX12_year 91 = .ok (.iconst 2, 1) := by decide +kernel
theorem dX12_year_92 : decode cX12_year 92 = .ok (.iadd, 1) := by decide +kernel
theorem dX12_year_93 : decode cX12_year 93 = .ok (.aload_n 0, 1) := by decide +kernel
theorem dX12_year_94 : decode cX12_year 94 = .ok (.iconst 0, 1) := by decide +kernel
theorem dX12_year_95 : decode cX12_year 95 = .ok (.invokevirtual 328, 3) := by decide +kernel
theorem dX12_year_98 : decode cX12_year 98 = .ok (.iastore, 1) := by decide +kernel
theorem dX12_year_99 : decode cX12_year 99 = .ok (.aload_n 0, 1) := by decide +kernel
theorem dX12_year_100 : decode cX12_year 100 = .ok (.getfield 17, 3) := by decide +kernel
theorem dX12_year_103 : decode cX12_year 103 = .ok (.iload_n 2, 1) := by decide +kernel
theorem dX12_year_104 : decode cX12_year 104 = .ok (.iconst 3, 1) := by decide +kernel
theorem dX12_year_105 : decode cX12_year 105 = .ok (.iadd, 1) := by decide +kernel
theorem dX12_year_106 : decode cX12_year 106 = .ok (.aload_n 0, 1) := by decide +kernel
theorem dX12_year_107 : decode cX12_year 107 = .ok (.iconst 1, 1) := by decide +kernel
theorem dX12_year_108 : decode cX12_year 108 = .ok (.invokevirtual 328, 3) := by decide +kernel
theorem dX12_year_111 : decode cX12_year 111 = .ok (.iastore, 1) := by decide +kernel
theorem dX12_year_112 : decode cX12_year 112 = .ok (.aload_n 0, 1) := by decide +kernel
theorem dX12_year_113 : decode cX12_year 113 = .ok (.getfield 17, 3) := by decide +kernel
theorem dX12_year_116 : decode cX12_year 116 = .ok (.iload_n 2, 1) := by decide +kernel
theorem dX12_year_117 : decode cX12_year 117 = .ok (.iconst 4, 1) := by decide +kernel
theorem dX12_year_118 : decode cX12_year 118 = .ok (.iadd, 1) := by decide +kernel
theorem dX12_year_119 : decode cX12_year 119 = .ok (.aload_n 0, 1) := by decide +kernel
theorem dX12_year_120 : decode cX12_year 120 = .ok (.invokevirtual 266, 3) := by decide +kernel
theorem dX12_year_123 : decode cX12_year 123 = .ok (.ifCond .eq 7, 3) := by decide +kernel
theorem dX12_year_126 : decode cX12_year 126 = .ok (.iconst 1, 1) := by decide +kernel
theorem dX12_year_127 : decode cX12_year 127 = .ok (.goto 4, 3) := by decide +kernel
theorem dX12_year_130 : decode cX12_year 130 = .ok (.iconst 0, 1) := by decide +kernel
theorem dX12_year_131 : decode cX12_year 131 = .ok (.iastore, 1) := by decide +kernel
theorem dX12_year_132 : decode cX12_year 132 = .ok (.aload_n 0, 1) := by decide +kernel
theorem dX12_year_133 : decode cX12_year 133 = .ok (.invokevirtual 362, 3) := by decide +kernel
theorem dX12_year_136 : decode cX12_year 136 = .ok (.aload_n 0, 1) := by decide +kernel
theorem dX12_year_137 : decode cX12_year 137 = .ok (.getfield 17, 3) := by decide +kernel
theorem dX12_year_140 : decode cX12_year 140 = .ok (.bipush 32, 2) := by decide +kernel
theorem dX12_year_142 : decode cX12_year 142 = .ok (.dup2, 1) := by decide +kernel
theorem dX12_year_143 : decode cX12_year 143 = .ok (.iaload, 1) := by decide +kernel
theorem dX12_year_144 : decode cX12_year 144 = .ok (.iconst 1, 1) := by decide +kernel
theorem dX12_year_145 : decode cX12_year 145 = .ok (.iadd, 1) := by decide +kernel
theorem dX12_year_146 : decode cX12_year 146 = .ok (.iastore, 1) := by decide +kernel
theorem dX12_year_147 : decode cX12_year 147 = .ok (.aload_n 0, 1) := by decide +kernel
theorem dX12_year_148 : decode cX12_year 148 = .ok (.aload_n 0, 1) := by decide +kernel
theorem dX12_year_149 : decode cX12_year 149 = .ok (.getfield 17, 3) := by decide +kernel
theorem dX12_year_152 : decode cX12_year 152 = .ok (.bipush 32, 2) := by decide +kernel
theorem dX12_year_154 : decode cX12_year 154 = .ok (.iaload, 1) := by decide +kernel
theorem dX12_year_155 : decode cX12_year 155 = .ok (.invokevirtual 233, 3) := by decide +kernel
theorem dX12_year_158 : decode cX12_year 158 = .ok (.ireturn, 1) := by decide +kernel
theorem dX12_undo_0 : decode cX12_undo 0 = .ok (.aload_n 0, 1) := by decide +kernel
theorem dX12_undo_1 : decode cX12_undo 1 = .ok (.iconst 0, 1) := by decide +kernel
theorem dX12_undo_2 : decode cX12_undo 2 = .ok (.putfield 73, 3) := by decide +kernel
theorem dX12_undo_5 : decode cX12_undo 5 = .ok (.aload_n 0, 1) := by decide +kernel
theorem dX12_undo_6 : decode cX12_undo 6 = .ok (.getfield 229, 3) := by decide +kernel
theorem dX12_undo_9 : decode cX12_undo 9 = .ok (.ifCond .ne 9, 3) := by decide +kernel
theorem dX12_undo_12 : decode cX12_undo 12 = .ok (.aload_n 0, 1) := by decide +kernel
theorem dX12_undo_13 : decode cX12_undo 13 = .ok (.iconst 1, 1) := by decide +kernel
theorem dX12_undo_14 : decode cX12_undo 14 = .ok (.invokevirtual 213, 3) := by decide +kernel
theorem dX12_undo_17 : decode cX12_undo 17 = .ok (.ireturn, 1) := by decide +kernel
theorem dX12_undo_18 : decode cX12_undo 18 = .ok (.aload_n 0, 1) := by decide +kernel
theorem dX12_undo_19 : decode cX12_undo 19 = .ok (.getfield 226, 3) := by decide +kernel
theorem dX12_undo_22 : decode cX12_undo 22 = .ok (.ifCond .ne 9, 3) := by decide +kernel
theorem dX12_undo_25 : decode cX12_undo 25 = .ok (.aload_n 0, 1) := by decide +kernel
theorem dX12_undo_26 : decode cX12_undo 26 = .ok (.iconst 5, 1) := by decide +kernel
theorem dX12_undo_27 : decode cX12_undo 27 = .ok (.invokevirtual 213, 3) := by decide +kernel
theorem dX12_undo_30 : decode cX12_undo 30 = .ok (.ireturn, 1) := by decide +kernel
theorem dX12_undo_31 : decode cX12_undo 31 = .ok (.aload_n 0, 1) := by decide +kernel
theorem dX12_undo_32 : decode cX12_undo 32 = .ok (.dup, 1) := by decide +kernel
theorem dX12_undo_33 : decode cX12_undo 33 = .ok (.getfield 226, 3) := by decide +kernel
theorem dX12_undo_36 : decode cX12_undo 36 = .ok (.iconst 1, 1) := by decide +kernel
theorem dX12_undo_37 : decode cX12_undo 37 = .ok (.isub, 1) := by decide +kernel
theorem dX12_undo_38 : decode cX12_undo 38 = .ok (.putfield 226, 3) := by decide +kernel
theorem dX12_undo_41 : decode cX12_undo 41 = .ok (.iconst 0, 1) := by decide +kernel
theorem dX12_undo_42 : decode cX12_undo 42 = .ok (.istore_n 1, 1) := by decide +kernel
theorem dX12_undo_43 : decode cX12_undo 43 = .ok (.iload_n 1, 1) := by decide +kernel
theorem dX12_undo_44 : decode cX12_undo 44 = .ok (.sipush 534, 3) := by decide +kernel
theorem dX12_undo_47 : decode cX12_undo 47 = .ok (.if_icmp .ge 30, 3) := by decide +kernel
theorem dX12_undo_50 : decode cX12_undo 50 = .ok (.aload_n 0, 1) := by decide +kernel
theorem dX12_undo_51 : decode cX12_undo 51 = .ok (.getfield 17, 3) := by decide +kernel
theorem dX12_undo_54 : decode cX12_undo 54 = .ok (.iload_n 1, 1) := by decide +kernel
theorem dX12_undo_55 : decode cX12_undo 55 = .ok (.aload_n 0, 1) := by decide +kernel
theorem dX12_undo_56 : decode cX12_undo 56 = .ok (.getfield 26, 3) := by decide +kernel
theorem dX12_undo_59 : decode cX12_undo 59 = .ok (.aload_n 0, 1) := by decide +kernel
theorem dX12_undo_60 : decode cX12_undo 60 = .ok (.getfield 226, 3) := by decide +kernel
theorem dX12_undo_63 : decode cX12_undo 63 = .ok (.sipush 534, 3) := by decide +kernel
theorem dX12_undo_66 : decode cX12_undo 66 = .ok (.imul, 1) := by decide +kernel
theorem dX12_undo_67 : decode cX12_undo 67 = .ok (.iload_n 1, 1) := by decide +kernel
theorem dX12_undo_68 : decode cX12_undo 68 = .ok (.iadd, 1) := by decide +kernel
theorem dX12_undo_69 : decode cX12_undo 69 = .ok (.iaload, 1) := by decide +kernel
theorem dX12_undo_70 : decode cX12_undo 70 = .ok (.iastore, 1) := by decide +kernel
theorem dX12_undo_71 : decode cX12_undo 71 = .ok (.iinc 1 1, 3) := by decide +kernel
theorem dX12_undo_74 : decode cX12_undo 74 = .ok (.goto (-31), 3) := by decide +kernel
theorem dX12_undo_77 : decode cX12_undo 77 = .ok (.aload_n 0, 1) := by decide +kernel
theorem dX12_undo_78 : decode cX12_undo 78 = .ok (.aload_n 0, 1) := by decide +kernel
theorem dX12_undo_79 : decode cX12_undo 79 = .ok (.getfield 226, 3) := by decide +kernel
theorem dX12_undo_82 : decode cX12_undo 82 = .ok (.invokevirtual 233, 3) := by decide +kernel
theorem dX12_undo_85 : decode cX12_undo 85 = .ok (.ireturn, 1) := by decide +kernel
theorem dX12_keep_0 : decode cX12_keep 0 = .ok (.aload_n 0, 1) := by decide +kernel
theorem dX12_keep_1 : decode cX12_keep 1 = .ok (.iconst 0, 1) := by decide +kernel
theorem dX12_keep_2 : decode cX12_keep 2 = .ok (.putfield 73, 3) := by decide +kernel
theorem dX12_keep_5 : decode cX12_keep 5 = .ok (.aload_n 0, 1) := by decide +kernel
theorem dX12_keep_6 : decode cX12_keep 6 = .ok (.getfield 229, 3) := by decide +kernel
theorem dX12_keep_9 : decode cX12_keep 9 = .ok (.ifCond .eq 12, 3) := by decide +kernel
theorem dX12_keep_12 : decode cX12_keep 12 = .ok (.iload_n 1, 1) := by decide +kernel
theorem dX12_keep_13 : decode cX12_keep 13 = .ok (.iconst 0, 1) := by decide +kernel
theorem dX12_keep_14 : decode cX12_keep 14 = .ok (.iconst 1, 1) := by decide +kernel
theorem dX12_keep_15 : decode cX12_keep 15 = .ok (.invokestatic 94, 3) := by decide +kernel
theorem dX12_keep_18 : decode cX12_keep 18 = .ok (.ifCond .ne 9, 3) := by decide +kernel
theorem dX12_keep_21 : decode cX12_keep 21 = .ok (.aload_n 0, 1) := by decide +kernel
theorem dX12_keep_22 : decode cX12_keep 22 = .ok (.iconst 1, 1) := by decide +kernel
theorem dX12_keep_23 : decode cX12_keep 23 = .ok (.invokevirtual 392, 3) := by decide +kernel
theorem dX12_keep_26 : decode cX12_keep 26 = .ok (.ireturn, 1) := by decide +kernel
theorem dX12_keep_27 : decode cX12_keep 27 = .ok (.iconst 0, 1) := by decide +kernel
theorem dX12_keep_28 : decode cX12_keep 28 = .ok (.istore_n 2, 1) := by decide +kernel
theorem dX12_keep_29 : decode cX12_keep 29 = .ok (.iload_n 2, 1) := by decide +kernel
theorem dX12_keep_30 : decode cX12_keep 30 = .ok (.sipush 534, 3) := by decide +kernel
theorem dX12_keep_33 : decode cX12_keep 33 = .ok (.if_icmp .ge 27, 3) := by decide +kernel
theorem dX12_keep_36 : decode cX12_keep 36 = .ok (.aload_n 0, 1) := by decide +kernel
theorem dX12_keep_37 : decode cX12_keep 37 = .ok (.getfield 29, 3) := by decide +kernel
theorem dX12_keep_40 : decode cX12_keep 40 = .ok (.sipush 534, 3) := by decide +kernel
theorem dX12_keep_43 : decode cX12_keep 43 = .ok (.iload_n 1, 1) := by decide +kernel
theorem dX12_keep_44 : decode cX12_keep 44 = .ok (.imul, 1) := by decide +kernel
theorem dX12_keep_45 : decode cX12_keep 45 = .ok (.iload_n 2, 1) := by decide +kernel
theorem dX12_keep_46 : decode cX12_keep 46 = .ok (.iadd, 1) := by decide +kernel
theorem dX12_keep_47 : decode cX12_keep 47 = .ok (.aload_n 0, 1) := by decide +kernel
theorem dX12_keep_48 : decode cX12_keep 48 = .ok (.getfield 17, 3) := by decide +kernel
theorem dX12_keep_51 : decode cX12_keep 51 = .ok (.iload_n 2, 1) := by decide +kernel
theorem dX12_keep_52 : decode cX12_keep 52 = .ok (.iaload, 1) := by decide +kernel
theorem dX12_keep_53 : decode cX12_keep 53 = .ok (.iastore, 1) := by decide +kernel
theorem dX12_keep_54 : decode cX12_keep 54 = .ok (.iinc 2 1, 3) := by decide +kernel
theorem dX12_keep_57 : decode cX12_keep 57 = .ok (.goto (-28), 3) := by decide +kernel
theorem dX12_keep_60 : decode cX12_keep 60 = .ok (.aload_n 0, 1) := by decide +kernel
theorem dX12_keep_61 : decode cX12_keep 61 = .ok (.getfield 39, 3) := by decide +kernel
theorem dX12_keep_64 : decode cX12_keep 64 = .ok (.iload_n 1, 1) := by decide +kernel
theorem dX12_keep_65 : decode cX12_keep 65 = .ok (.iconst 1, 1) := by decide +kernel
theorem dX12_keep_66 : decode cX12_keep 66 = .ok (.bastore, 1) := by decide +kernel
theorem dX12_keep_67 : decode cX12_keep 67 = .ok (.aload_n 0, 1) := by decide +kernel
theorem dX12_keep_68 : decode cX12_keep 68 = .ok (.iconst 0, 1) := by decide +kernel
theorem dX12_keep_69 : decode cX12_keep 69 = .ok (.invokevirtual 392, 3) := by decide +kernel
theorem dX12_keep_72 : decode cX12_keep 72 = .ok (.ireturn, 1) := by decide +kernel
theorem dX12_back_0 : decode cX12_back 0 = .ok (.aload_n 0, 1) := by decide +kernel
theorem dX12_back_1 : decode cX12_back 1 = .ok (.iconst 0, 1) := by decide +kernel
theorem dX12_back_2 : decode cX12_back 2 = .ok (.putfield 73, 3) := by decide +kernel
theorem dX12_back_5 : decode cX12_back 5 = .ok (.aload_n 0, 1) := by decide +kernel
theorem dX12_back_6 : decode cX12_back 6 = .ok (.getfield 229, 3) := by decide +kernel
theorem dX12_back_9 : decode cX12_back 9 = .ok (.ifCond .eq 21, 3) := by decide +kernel
theorem dX12_back_12 : decode cX12_back 12 = .ok (.iload_n 1, 1) := by decide +kernel
theorem dX12_back_13 : decode cX12_back 13 = .ok (.iconst 0, 1) := by decide +kernel
theorem dX12_back_14 : decode cX12_back 14 = .ok (.iconst 1, 1) := by decide +kernel
theorem dX12_back_15 : decode cX12_back 15 = .ok (.invokestatic 94, 3) := by decide +kernel
theorem dX12_back_18 : decode cX12_back 18 = .ok (.ifCond .eq 12, 3) := by decide +kernel
theorem dX12_back_21 : decode cX12_back 21 = .ok (.aload_n 0, 1) := by decide +kernel
theorem dX12_back_22 : decode cX12_back 22 = .ok (.getfield 39, 3) := by decide +kernel
theorem dX12_back_25 : decode cX12_back 25 = .ok (.iload_n 1, 1) := by decide +kernel
theorem dX12_back_26 : decode cX12_back 26 = .ok (.baload, 1) := by decide +kernel
theorem dX12_back_27 : decode cX12_back 27 = .ok (.ifCond .ne 9, 3) := by decide +kernel
theorem dX12_back_30 : decode cX12_back 30 = .ok (.aload_n 0, 1) := by decide +kernel
theorem dX12_back_31 : decode cX12_back 31 = .ok (.iconst 1, 1) := by decide +kernel
theorem dX12_back_32 : decode cX12_back 32 = .ok (.invokevirtual 392, 3) := by decide +kernel
theorem dX12_back_35 : decode cX12_back 35 = .ok (.ireturn, 1) := by decide +kernel
theorem dX12_back_36 : decode cX12_back 36 = .ok (.iconst 0, 1) := by decide +kernel
theorem dX12_back_37 : decode cX12_back 37 = .ok (.istore_n 2, 1) := by decide +kernel
theorem dX12_back_38 : decode cX12_back 38 = .ok (.iload_n 2, 1) := by decide +kernel
theorem dX12_back_39 : decode cX12_back 39 = .ok (.sipush 534, 3) := by decide +kernel
theorem dX12_back_42 : decode cX12_back 42 = .ok (.if_icmp .ge 27, 3) := by decide +kernel
theorem dX12_back_45 : decode cX12_back 45 = .ok (.aload_n 0, 1) := by decide +kernel
theorem dX12_back_46 : decode cX12_back 46 = .ok (.getfield 17, 3) := by decide +kernel
theorem dX12_back_49 : decode cX12_back 49 = .ok (.iload_n 2, 1) := by decide +kernel
theorem dX12_back_50 : decode cX12_back 50 = .ok (.aload_n 0, 1) := by decide +kernel
theorem dX12_back_51 : decode cX12_back 51 = .ok (.getfield 29, 3) := by decide +kernel
theorem dX12_back_54 : decode cX12_back 54 = .ok (.sipush 534, 3) := by decide +kernel
theorem dX12_back_57 : decode cX12_back 57 = .ok (.iload_n 1, 1) := by decide +kernel
theorem dX12_back_58 : decode cX12_back 58 = .ok (.imul, 1) := by decide +kernel
theorem dX12_back_59 : decode cX12_back 59 = .ok (.iload_n 2, 1) := by decide +kernel
theorem dX12_back_60 : decode cX12_back 60 = .ok (.iadd, 1) := by decide +kernel
theorem dX12_back_61 : decode cX12_back 61 = .ok (.iaload, 1) := by decide +kernel
theorem dX12_back_62 : decode cX12_back 62 = .ok (.iastore, 1) := by decide +kernel
theorem dX12_back_63 : decode cX12_back 63 = .ok (.iinc 2 1, 3) := by decide +kernel
theorem dX12_back_66 : decode cX12_back 66 = .ok (.goto (-28), 3) := by decide +kernel
theorem dX12_back_69 : decode cX12_back 69 = .ok (.aload_n 0, 1) := by decide +kernel
theorem dX12_back_70 : decode cX12_back 70 = .ok (.iconst 0, 1) := by decide +kernel
theorem dX12_back_71 : decode cX12_back 71 = .ok (.putfield 226, 3) := by decide +kernel
theorem dX12_back_74 : decode cX12_back 74 = .ok (.aload_n 0, 1) := by decide +kernel
theorem dX12_back_75 : decode cX12_back 75 = .ok (.iconst 0, 1) := by decide +kernel
theorem dX12_back_76 : decode cX12_back 76 = .ok (.invokevirtual 392, 3) := by decide +kernel
theorem dX12_back_79 : decode cX12_back 79 = .ok (.ireturn, 1) := by decide +kernel
theorem dX12_book_0 : decode cX12_book 0 = .ok (.aload_n 0, 1) := by decide +kernel
theorem dX12_book_1 : decode cX12_book 1 = .ok (.iconst 0, 1) := by decide +kernel
theorem dX12_book_2 : decode cX12_book 2 = .ok (.putfield 73, 3) := by decide +kernel
theorem dX12_book_5 : decode cX12_book 5 = .ok (.aload_n 0, 1) := by decide +kernel
theorem dX12_book_6 : decode cX12_book 6 = .ok (.getfield 229, 3) := by decide +kernel
theorem dX12_book_9 : decode cX12_book 9 = .ok (.ifCond .eq 29, 3) := by decide +kernel
theorem dX12_book_12 : decode cX12_book 12 = .ok (.iload_n 1, 1) := by decide +kernel
theorem dX12_book_13 : decode cX12_book 13 = .ok (.iconst 0, 1) := by decide +kernel
theorem dX12_book_14 : decode cX12_book 14 = .ok (.aload_n 0, 1) := by decide +kernel
theorem dX12_book_15 : decode cX12_book 15 = .ok (.getfield 17, 3) := by decide +kernel
theorem dX12_book_18 : decode cX12_book 18 = .ok (.bipush 32, 2) := by decide +kernel
theorem dX12_book_20 : decode cX12_book 20 = .ok (.iaload, 1) := by decide +kernel
theorem dX12_book_21 : decode cX12_book 21 = .ok (.iconst 1, 1) := by decide +kernel
theorem dX12_book_22 : decode cX12_book 22 = .ok (.isub, 1) := by decide +kernel
theorem dX12_book_23 : decode cX12_book 23 = .ok (.invokestatic 94, 3) := by decide +kernel
theorem dX12_book_26 : decode cX12_book 26 = .ok (.ifCond .eq 12, 3) := by decide +kernel
theorem dX12_book_29 : decode cX12_book 29 = .ok (.iload_n 2, 1) := by decide +kernel
theorem dX12_book_30 : decode cX12_book 30 = .ok (.iconst 0, 1) := by decide +kernel
theorem dX12_book_31 : decode cX12_book 31 = .ok (.iconst 4, 1) := by decide +kernel
theorem dX12_book_32 : decode cX12_book 32 = .ok (.invokestatic 94, 3) := by decide +kernel
theorem dX12_book_35 : decode cX12_book 35 = .ok (.ifCond .ne 9, 3) := by decide +kernel
theorem dX12_book_38 : decode cX12_book 38 = .ok (.aload_n 0, 1) := by decide +kernel
theorem dX12_book_39 : decode cX12_book 39 = .ok (.iconst 1, 1) := by decide +kernel
theorem dX12_book_40 : decode cX12_book 40 = .ok (.invokevirtual 213, 3) := by decide +kernel
theorem dX12_book_43 : decode cX12_book 43 = .ok (.ireturn, 1) := by decide +kernel
theorem dX12_book_44 : decode cX12_book 44 = .ok (.aload_n 0, 1) := by decide +kernel
theorem dX12_book_45 : decode cX12_book 45 = .ok (.aload_n 0, 1) := by decide +kernel
theorem dX12_book_46 : decode cX12_book 46 = .ok (.getfield 17, 3) := by decide +kernel
theorem dX12_book_49 : decode cX12_book 49 = .ok (.bipush 34, 2) := by decide +kernel
theorem dX12_book_51 : decode cX12_book 51 = .ok (.iconst 5, 1) := by decide +kernel
theorem dX12_book_52 : decode cX12_book 52 = .ok (.iload_n 1, 1) := by decide +kernel
theorem dX12_book_53 : decode cX12_book 53 = .ok (.imul, 1) := by decide +kernel
theorem dX12_book_54 : decode cX12_book 54 = .ok (.iadd, 1) := by decide +kernel
theorem dX12_book_55 : decode cX12_book 55 = .ok (.iload_n 2, 1) := by decide +kernel
theorem dX12_book_56 : decode cX12_book 56 = .ok (.iadd, 1) := by decide +kernel
theorem dX12_book_57 : decode cX12_book 57 = .ok (.iaload, 1) := by decide +kernel
theorem dX12_book_58 : decode cX12_book 58 = .ok (.invokevirtual 233, 3) := by decide +kernel
theorem dX12_book_61 : decode cX12_book 61 = .ok (.ireturn, 1) := by decide +kernel
theorem dX12_letter_0 : decode cX12_letter 0 = .ok (.aload_n 0, 1) := by decide +kernel
theorem dX12_letter_1 : decode cX12_letter 1 = .ok (.iconst 0, 1) := by decide +kernel
theorem dX12_letter_2 : decode cX12_letter 2 = .ok (.putfield 73, 3) := by decide +kernel
theorem dX12_letter_5 : decode cX12_letter 5 = .ok (.aload_n 0, 1) := by decide +kernel
theorem dX12_letter_6 : decode cX12_letter 6 = .ok (.iload_n 1, 1) := by decide +kernel
theorem dX12_letter_7 : decode cX12_letter 7 = .ok (.invokevirtual 272, 3) := by decide +kernel
theorem dX12_letter_10 : decode cX12_letter 10 = .ok (.ifCond .eq 12, 3) := by decide +kernel
theorem dX12_letter_13 : decode cX12_letter 13 = .ok (.aload_n 0, 1) := by decide +kernel
theorem dX12_letter_14 : decode cX12_letter 14 = .ok (.getfield 32, 3) := by decide +kernel
theorem dX12_letter_17 : decode cX12_letter 17 = .ok (.iload_n 1, 1) := by decide +kernel
theorem dX12_letter_18 : decode cX12_letter 18 = .ok (.laload, 1) := by decide +kernel
theorem dX12_letter_19 : decode cX12_letter 19 = .ok (.goto 4, 3) := by decide +kernel
theorem dX12_letter_22 : decode cX12_letter 22 = .ok (.lconst 0, 1) := by decide +kernel
theorem dX12_letter_23 : decode cX12_letter 23 = .ok (.lstore_n 3, 1) := by decide +kernel
theorem dX12_letter_24 : decode cX12_letter 24 = .ok (.iconst 0, 1) := by decide +kernel
theorem dX12_letter_25 : decode cX12_letter 25 = .ok (.istore 5, 2) := by decide +kernel
theorem dX12_letter_27 : decode cX12_letter 27 = .ok (.lload_n 3, 1) := by decide +kernel
theorem dX12_letter_28 : decode cX12_letter 28 = .ok (.lstore 6, 2) := by decide +kernel
theorem dX12_letter_30 : decode cX12_letter 30 = .ok (.lload 6, 2) := by decide +kernel
theorem dX12_letter_32 : decode cX12_letter 32 = .ok (.lconst 0, 1) := by decide +kernel
theorem dX12_letter_33 : decode cX12_letter 33 = .ok (.lcmp, 1) := by decide +kernel
theorem dX12_letter_34 : decode cX12_letter 34 = .ok (.ifCond .le 17, 3) := by decide +kernel
theorem dX12_letter_37 : decode cX12_letter 37 = .ok (.iinc 5 1, 3) := by decide +kernel
theorem dX12_letter_40 : decode cX12_letter 40 = .ok (.lload 6, 2) := by decide +kernel
theorem dX12_letter_42 : decode cX12_letter 42 = .ok (.ldc2_w 112, 3) := by decide +kernel
theorem dX12_letter_45 : decode cX12_letter 45 = .ok (.ldiv, 1) := by decide +kernel
theorem dX12_letter_46 : decode cX12_letter 46 = .ok (.lstore 6, 2) := by decide +kernel
theorem dX12_letter_48 : decode cX12_letter 48 = .ok (.goto (-18), 3) := by decide +kernel
theorem dX12_letter_51 : decode cX12_letter 51 = .ok (.iload_n 2, 1) := by decide +kernel
theorem dX12_letter_52 : decode cX12_letter 52 = .ok (.iconst 0, 1) := by decide +kernel
theorem dX12_letter_53 : decode cX12_letter 53 = .ok (.iload 5, 2) := by decide +kernel
theorem dX12_letter_55 : decode cX12_letter 55 = .ok (.iconst 1, 1) := by decide +kernel
theorem dX12_letter_56 : decode cX12_letter 56 = .ok (.isub, 1) := by decide +kernel
theorem dX12_letter_57 : decode cX12_letter 57 = .ok (.invokestatic 94, 3) := by decide +kernel
theorem dX12_letter_60 : decode cX12_letter 60 = .ok (.ifCond .ne 10, 3) := by decide +kernel
theorem dX12_letter_63 : decode cX12_letter 63 = .ok (.aload_n 0, 1) := by decide +kernel
theorem dX12_letter_64 : decode cX12_letter 64 = .ok (.iconst 1, 1) := by decide +kernel
theorem dX12_letter_65 : decode cX12_letter 65 = .ok (.putfield 73, 3) := by decide +kernel
theorem dX12_letter_68 : decode cX12_letter 68 = .ok (.iconst 0, 1) := by decide +kernel
theorem dX12_letter_69 : decode cX12_letter 69 = .ok (.ireturn, 1) := by decide +kernel
theorem dX12_letter_70 : decode cX12_letter 70 = .ok (.iload 5, 2) := by decide +kernel
theorem dX12_letter_72 : decode cX12_letter 72 = .ok (.iconst 1, 1) := by decide +kernel
theorem dX12_letter_73 : decode cX12_letter 73 = .ok (.isub, 1) := by decide +kernel
theorem dX12_letter_74 : decode cX12_letter 74 = .ok (.istore 6, 2) := by decide +kernel
theorem dX12_letter_76 : decode cX12_letter 76 = .ok (.iload 6, 2) := by decide +kernel
theorem dX12_letter_78 : decode cX12_letter 78 = .ok (.iload_n 2, 1) := by decide +kernel
theorem dX12_letter_79 : decode cX12_letter 79 = .ok (.if_icmp .le 15, 3) := by decide +kernel
theorem dX12_letter_82 : decode cX12_letter 82 = .ok (.lload_n 3, 1) := by decide +kernel
theorem dX12_letter_83 : decode cX12_letter 83 = .ok (.ldc2_w 112, 3) := by decide +kernel
theorem dX12_letter_86 : decode cX12_letter 86 = .ok (.ldiv, 1) := by decide +kernel
theorem dX12_letter_87 : decode cX12_letter 87 = .ok (.lstore_n 3, 1) := by decide +kernel
theorem dX12_letter_88 : decode cX12_letter 88 = .ok (.iinc 6 (-1), 3) := by decide +kernel
theorem dX12_letter_91 : decode cX12_letter 91 = .ok (.goto (-15), 3) := by decide +kernel
theorem dX12_letter_94 : decode cX12_letter 94 = .ok (.lload_n 3, 1) := by decide +kernel
theorem dX12_letter_95 : decode cX12_letter 95 = .ok (.ldc2_w 112, 3) := by decide +kernel
theorem dX12_letter_98 : decode cX12_letter 98 = .ok (.lrem, 1) := by decide +kernel
theorem dX12_letter_99 : decode cX12_letter 99 = .ok (.l2i, 1) := by decide +kernel
theorem dX12_letter_100 : decode cX12_letter 100 = .ok (.iconst 1, 1) := by decide +kernel
theorem dX12_letter_101 : decode cX12_letter 101 = .ok (.isub, 1) := by decide +kernel
theorem dX12_letter_102 : decode cX12_letter 102 = .ok (.ireturn, 1) := by decide +kernel
theorem dX12_bytes_0 : decode cX12_bytes 0 = .ok (.aload_n 0, 1) := by decide +kernel
theorem dX12_bytes_1 : decode cX12_bytes 1 = .ok (.iconst 0, 1) := by decide +kernel
theorem dX12_bytes_2 : decode cX12_bytes 2 = .ok (.putfield 73, 3) := by decide +kernel
theorem dX12_bytes_5 : decode cX12_bytes 5 = .ok (.aload_n 0, 1) := by decide +kernel
theorem dX12_bytes_6 : decode cX12_bytes 6 = .ok (.getfield 79, 3) := by decide +kernel
theorem dX12_bytes_9 : decode cX12_bytes 9 = .ok (.ireturn, 1) := by decide +kernel
theorem dX12_trouble_0 : decode cX12_trouble 0 = .ok (.aload_n 0, 1) := by decide +kernel
theorem dX12_trouble_1 : decode cX12_trouble 1 = .ok (.iconst 0, 1) := by decide +kernel
theorem dX12_trouble_2 : decode cX12_trouble 2 = .ok (.putfield 73, 3) := by decide +kernel
theorem dX12_trouble_5 : decode cX12_trouble 5 = .ok (.aload_n 0, 1) := by decide +kernel
theorem dX12_trouble_6 : decode cX12_trouble 6 = .ok (.getfield 76, 3) := by decide +kernel
theorem dX12_trouble_9 : decode cX12_trouble 9 = .ok (.ireturn, 1) := by decide +kernel
