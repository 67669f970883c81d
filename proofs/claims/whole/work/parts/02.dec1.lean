theorem dX0_init_0 : decode cX0_init 0 = .ok (.aload_n 0, 1) := by decide +kernel
theorem dX0_init_1 : decode cX0_init 1 = .ok (.invokespecial 3, 3) := by decide +kernel
theorem dX0_init_4 : decode cX0_init 4 = .ok (.aload_n 0, 1) := by decide +kernel
theorem dX0_init_5 : decode cX0_init 5 = .ok (.sipush 396, 3) := by decide +kernel
theorem dX0_init_8 : decode cX0_init 8 = .ok (.newarray .int, 2) := by decide +kernel
theorem dX0_init_10 : decode cX0_init 10 = .ok (.putfield 11, 3) := by decide +kernel
theorem dX0_init_13 : decode cX0_init 13 = .ok (.return_, 1) := by decide +kernel
theorem dX0_enter_0 : decode cX0_enter 0 = .ok (.aload_n 2, 1) := by decide +kernel
theorem dX0_enter_1 : decode cX0_enter 1 = .ok (.getfield 15, 3) := by decide +kernel
theorem dX0_enter_4 : decode cX0_enter 4 = .ok (.ifCond .lt 12, 3) := by decide +kernel
theorem dX0_enter_7 : decode cX0_enter 7 = .ok (.aload_n 2, 1) := by decide +kernel
theorem dX0_enter_8 : decode cX0_enter 8 = .ok (.getfield 15, 3) := by decide +kernel
theorem dX0_enter_11 : decode cX0_enter 11 = .ok (.bipush 99, 2) := by decide +kernel
theorem dX0_enter_13 : decode cX0_enter 13 = .ok (.if_icmp .lt 4, 3) := by decide +kernel
theorem dX0_enter_16 : decode cX0_enter 16 = .ok (.return_, 1) := by decide +kernel
theorem dX0_enter_17 : decode cX0_enter 17 = .ok (.aload_n 2, 1) := by decide +kernel
theorem dX0_enter_18 : decode cX0_enter 18 = .ok (.getfield 15, 3) := by decide +kernel
theorem dX0_enter_21 : decode cX0_enter 21 = .ok (.iconst 4, 1) := by decide +kernel
theorem dX0_enter_22 : decode cX0_enter 22 = .ok (.imul, 1) := by decide +kernel
theorem dX0_enter_23 : decode cX0_enter 23 = .ok (.istore_n 3, 1) := by decide +kernel
theorem dX0_enter_24 : decode cX0_enter 24 = .ok (.aload_n 0, 1) := by decide +kernel
theorem dX0_enter_25 : decode cX0_enter 25 = .ok (.getfield 11, 3) := by decide +kernel
theorem dX0_enter_28 : decode cX0_enter 28 = .ok (.iload_n 3, 1) := by decide +kernel
theorem dX0_enter_29 : decode cX0_enter 29 = .ok (.aload_n 2, 1) := by decide +kernel
theorem dX0_enter_30 : decode cX0_enter 30 = .ok (.aload_n 1, 1) := by decide +kernel
theorem dX0_enter_31 : decode cX0_enter 31 = .ok (.invokevirtual 21, 3) := by decide +kernel
theorem dX0_enter_34 : decode cX0_enter 34 = .ok (.iastore, 1) := by decide +kernel
theorem dX0_enter_35 : decode cX0_enter 35 = .ok (.aload_n 0, 1) := by decide +kernel
theorem dX0_enter_36 : decode cX0_enter 36 = .ok (.getfield 11, 3) := by decide +kernel
theorem dX0_enter_39 : decode cX0_enter 39 = .ok (.iload_n 3, 1) := by decide +kernel
theorem dX0_enter_40 : decode cX0_enter 40 = .ok (.iconst 1, 1) := by decide +kernel
theorem dX0_enter_41 : decode cX0_enter 41 = .ok (.iadd, 1) := by decide +kernel
theorem dX0_enter_42 : decode cX0_enter 42 = .ok (.aload_n 2, 1) := by decide +kernel
theorem dX0_enter_43 : decode cX0_enter 43 = .ok (.aload_n 1, 1) := by decide +kernel
theorem dX0_enter_44 : decode cX0_enter 44 = .ok (.invokevirtual 25, 3) := by decide +kernel
theorem dX0_enter_47 : decode cX0_enter 47 = .ok (.iastore, 1) := by decide +kernel
theorem dX0_enter_48 : decode cX0_enter 48 = .ok (.aload_n 0, 1) := by decide +kernel
theorem dX0_enter_49 : decode cX0_enter 49 = .ok (.getfield 11, 3) := by decide +kernel
theorem dX0_enter_52 : decode cX0_enter 52 = .ok (.iload_n 3, 1) := by decide +kernel
theorem dX0_enter_53 : decode cX0_enter 53 = .ok (.iconst 2, 1) := by decide +kernel
theorem dX0_enter_54 : decode cX0_enter 54 = .ok (.iadd, 1) := by decide +kernel
theorem dX0_enter_55 : decode cX0_enter 55 = .ok (.aload_n 1, 1) := by decide +kernel
theorem dX0_enter_56 : decode cX0_enter 56 = .ok (.aload_n 1, 1) := by decide +kernel
theorem dX0_enter_57 : decode cX0_enter 57 = .ok (.getfield 28, 3) := by decide +kernel
theorem dX0_enter_60 : decode cX0_enter 60 = .ok (.aload_n 2, 1) := by decide +kernel
theorem dX0_enter_61 : decode cX0_enter 61 = .ok (.getfield 33, 3) := by decide +kernel
theorem dX0_enter_64 : decode cX0_enter 64 = .ok (.invokevirtual 36, 3) := by decide +kernel
theorem dX0_enter_67 : decode cX0_enter 67 = .ok (.iastore, 1) := by decide +kernel
theorem dX0_enter_68 : decode cX0_enter 68 = .ok (.aload_n 0, 1) := by decide +kernel
theorem dX0_enter_69 : decode cX0_enter 69 = .ok (.getfield 11, 3) := by decide +kernel
theorem dX0_enter_72 : decode cX0_enter 72 = .ok (.iload_n 3, 1) := by decide +kernel
theorem dX0_enter_73 : decode cX0_enter 73 = .ok (.iconst 3, 1) := by decide +kernel
theorem dX0_enter_74 : decode cX0_enter 74 = .ok (.iadd, 1) := by decide +kernel
theorem dX0_enter_75 : decode cX0_enter 75 = .ok (.aload_n 1, 1) := by decide +kernel
theorem dX0_enter_76 : decode cX0_enter 76 = .ok (.aload_n 1, 1) := by decide +kernel
theorem dX0_enter_77 : decode cX0_enter 77 = .ok (.getfield 40, 3) := by decide +kernel
theorem dX0_enter_80 : decode cX0_enter 80 = .ok (.aload_n 2, 1) := by decide +kernel
theorem dX0_enter_81 : decode cX0_enter 81 = .ok (.getfield 33, 3) := by decide +kernel
theorem dX0_enter_84 : decode cX0_enter 84 = .ok (.invokevirtual 36, 3) := by decide +kernel
theorem dX0_enter_87 : decode cX0_enter 87 = .ok (.iastore, 1) := by decide +kernel
theorem dX0_enter_88 : decode cX0_enter 88 = .ok (.return_, 1) := by decide +kernel
theorem dX0_look_0 : decode cX0_look 0 = .ok (.iload_n 1, 1) := by decide +kernel
theorem dX0_look_1 : decode cX0_look 1 = .ok (.iconst 4, 1) := by decide +kernel
theorem dX0_look_2 : decode cX0_look 2 = .ok (.imul, 1) := by decide +kernel
theorem dX0_look_3 : decode cX0_look 3 = .ok (.istore_n 3, 1) := by decide +kernel
theorem dX0_look_4 : decode cX0_look 4 = .ok (.iload_n 2, 1) := by decide +kernel
theorem dX0_look_5 : decode cX0_look 5 = .ok (.iconst 4, 1) := by decide +kernel
theorem dX0_look_6 : decode cX0_look 6 = .ok (.if_icmp .ge 14, 3) := by decide +kernel
theorem dX0_look_9 : decode cX0_look 9 = .ok (.aload_n 0, 1) := by decide +kernel
theorem dX0_look_10 : decode cX0_look 10 = .ok (.getfield 11, 3) := by decide +kernel
theorem dX0_look_13 : decode cX0_look 13 = .ok (.iload_n 3, 1) := by decide +kernel
theorem dX0_look_14 : decode cX0_look 14 = .ok (.iload_n 2, 1) := by decide +kernel
theorem dX0_look_15 : decode cX0_look 15 = .ok (.iadd, 1) := by decide +kernel
theorem dX0_look_16 : decode cX0_look 16 = .ok (.iaload, 1) := by decide +kernel
theorem dX0_look_17 : decode cX0_look 17 = .ok (.goto 25, 3) := by decide +kernel
theorem dX0_look_20 : decode cX0_look 20 = .ok (.aload_n 0, 1) := by decide +kernel
theorem dX0_look_21 : decode cX0_look 21 = .ok (.getfield 11, 3) := by decide +kernel
theorem dX0_look_24 : decode cX0_look 24 = .ok (.iload_n 3, 1) := by decide +kernel
theorem dX0_look_25 : decode cX0_look 25 = .ok (.iaload, 1) := by decide +kernel
theorem dX0_look_26 : decode cX0_look 26 = .ok (.aload_n 0, 1) := by decide +kernel
theorem dX0_look_27 : decode cX0_look 27 = .ok (.getfield 11, 3) := by decide +kernel
theorem dX0_look_30 : decode cX0_look 30 = .ok (.iload_n 3, 1) := by decide +kernel
theorem dX0_look_31 : decode cX0_look 31 = .ok (.iconst 1, 1) := by decide +kernel
theorem dX0_look_32 : decode cX0_look 32 = .ok (.iadd, 1) := by decide +kernel
theorem dX0_look_33 : decode cX0_look 33 = .ok (.iaload, 1) := by decide +kernel
theorem dX0_look_34 : decode cX0_look 34 = .ok (.if_icmp .gt 7, 3) := by decide +kernel
theorem dX0_look_37 : decode cX0_look 37 = .ok (.iconst 1, 1) := by decide +kernel
theorem dX0_look_38 : decode cX0_look 38 = .ok (.goto 4, 3) := by decide +kernel
theorem dX0_look_41 : decode cX0_look 41 = .ok (.iconst 0, 1) := by decide +kernel
theorem dX0_look_42 : decode cX0_look 42 = .ok (.ireturn, 1) := by decide +kernel
theorem dX0_copy_0 : decode cX0_copy 0 = .ok (.aload_n 1, 1) := by decide +kernel
theorem dX0_copy_1 : decode cX0_copy 1 = .ok (.getfield 11, 3) := by decide +kernel
theorem dX0_copy_4 : decode cX0_copy 4 = .ok (.iconst 0, 1) := by decide +kernel
theorem dX0_copy_5 : decode cX0_copy 5 = .ok (.aload_n 0, 1) := by decide +kernel
theorem dX0_copy_6 : decode cX0_copy 6 = .ok (.getfield 11, 3) := by decide +kernel
theorem dX0_copy_9 : decode cX0_copy 9 = .ok (.iconst 0, 1) := by decide +kernel
theorem dX0_copy_10 : decode cX0_copy 10 = .ok (.iload_n 2, 1) := by decide +kernel
theorem dX0_copy_11 : decode cX0_copy 11 = .ok (.iconst 4, 1) := by decide +kernel
theorem dX0_copy_12 : decode cX0_copy 12 = .ok (.imul, 1) := by decide +kernel
theorem dX0_copy_13 : decode cX0_copy 13 = .ok (.invokestatic 43, 3) := by decide +kernel
theorem dX0_copy_16 : decode cX0_copy 16 = .ok (.return_, 1) := by decide +kernel
theorem dX1_init_0 : decode cX1_init 0 = .ok (.aload_n 0, 1) := by decide +kernel
theorem dX1_init_1 : decode cX1_init 1 = .ok (.invokespecial 3, 3) := by decide +kernel
theorem dX1_init_4 : decode cX1_init 4 = .ok (.aload_n 0, 1) := by decide +kernel
theorem dX1_init_5 : decode cX1_init 5 = .ok (.iconst 4, 1) := by decide +kernel
theorem dX1_init_6 : decode cX1_init 6 = .ok (.newarray .int, 2) := by decide +kernel
theorem dX1_init_8 : decode cX1_init 8 = .ok (.putfield 9, 3) := by decide +kernel
theorem dX1_init_11 : decode cX1_init 11 = .ok (.return_, 1) := by decide +kernel
theorem dX1_seek_0 : decode cX1_seek 0 = .ok (.aload_n 0, 1) := by decide +kernel
theorem dX1_seek_1 : decode cX1_seek 1 = .ok (.iconst 0, 1) := by decide +kernel
theorem dX1_seek_2 : decode cX1_seek 2 = .ok (.putfield 15, 3) := by decide +kernel
theorem dX1_seek_5 : decode cX1_seek 5 = .ok (.aload_n 2, 1) := by decide +kernel
theorem dX1_seek_6 : decode cX1_seek 6 = .ok (.aload_n 1, 1) := by decide +kernel
theorem dX1_seek_7 : decode cX1_seek 7 = .ok (.invokevirtual 19, 3) := by decide +kernel
theorem dX1_seek_10 : decode cX1_seek 10 = .ok (.ineg, 1) := by decide +kernel
theorem dX1_seek_11 : decode cX1_seek 11 = .ok (.istore_n 3, 1) := by decide +kernel
theorem dX1_seek_12 : decode cX1_seek 12 = .ok (.iconst 0, 1) := by decide +kernel
theorem dX1_seek_13 : decode cX1_seek 13 = .ok (.istore 4, 2) := by decide +kernel
theorem dX1_seek_15 : decode cX1_seek 15 = .ok (.iload 4, 2) := by decide +kernel
theorem dX1_seek_17 : decode cX1_seek 17 = .ok (.aload_n 1, 1) := by decide +kernel
theorem dX1_seek_18 : decode cX1_seek 18 = .ok (.getfield 25, 3) := by decide +kernel
theorem dX1_seek_21 : decode cX1_seek 21 = .ok (.if_icmp .ge 65, 3) := by decide +kernel
theorem dX1_seek_24 : decode cX1_seek 24 = .ok (.iconst 0, 1) := by decide +kernel
theorem dX1_seek_25 : decode cX1_seek 25 = .ok (.istore 5, 2) := by decide +kernel
theorem dX1_seek_27 : decode cX1_seek 27 = .ok (.iload 5, 2) := by decide +kernel
theorem dX1_seek_29 : decode cX1_seek 29 = .ok (.aload_n 1, 1) := by decide +kernel
theorem dX1_seek_30 : decode cX1_seek 30 = .ok (.getfield 25, 3) := by decide +kernel
theorem dX1_seek_33 : decode cX1_seek 33 = .ok (.if_icmp .ge 47, 3) := by decide +kernel
theorem dX1_seek_36 : decode cX1_seek 36 = .ok (.iload 4, 2) := by decide +kernel
theorem dX1_seek_38 : decode cX1_seek 38 = .ok (.iload 5, 2) := by decide +kernel
theorem dX1_seek_40 : decode cX1_seek 40 = .ok (.if_icmp .eq 34, 3) := by decide +kernel
theorem dX1_seek_43 : decode cX1_seek 43 = .ok (.aload_n 2, 1) := by decide +kernel
theorem dX1_seek_44 : decode cX1_seek 44 = .ok (.getfield 31, 3) := by decide +kernel
theorem dX1_seek_47 : decode cX1_seek 47 = .ok (.iload 4, 2) := by decide +kernel
theorem dX1_seek_49 : decode cX1_seek 49 = .ok (.iaload, 1) := by decide +kernel
theorem dX1_seek_50 : decode cX1_seek 50 = .ok (.bipush 20, 2) := by decide +kernel
theorem dX1_seek_52 : decode cX1_seek 52 = .ok (.if_icmp .ge 22, 3) := by decide +kernel
theorem dX1_seek_55 : decode cX1_seek 55 = .ok (.aload_n 0, 1) := by decide +kernel
theorem dX1_seek_56 : decode cX1_seek 56 = .ok (.aload_n 1, 1) := by decide +kernel
theorem dX1_seek_57 : decode cX1_seek 57 = .ok (.aload_n 2, 1) := by decide +kernel
theorem dX1_seek_58 : decode cX1_seek 58 = .ok (.iload 4, 2) := by decide +kernel
theorem dX1_seek_60 : decode cX1_seek 60 = .ok (.iload 5, 2) := by decide +kernel
theorem dX1_seek_62 : decode cX1_seek 62 = .ok (.iload_n 3, 1) := by decide +kernel
theorem dX1_seek_63 : decode cX1_seek 63 = .ok (.aload_n 2, 1) := by decide +kernel
theorem dX1_seek_64 : decode cX1_seek 64 = .ok (.aload_n 1, 1) := by decide +kernel
theorem dX1_seek_65 : decode cX1_seek 65 = .ok (.iload 4, 2) := by decide +kernel
theorem dX1_seek_67 : decode cX1_seek 67 = .ok (.invokevirtual 34, 3) := by decide +kernel
theorem dX1_seek_70 : decode cX1_seek 70 = .ok (.iadd, 1) := by decide +kernel
theorem dX1_seek_71 : decode cX1_seek 71 = .ok (.invokevirtual 38, 3) := by decide +kernel
theorem dX1_seek_74 : decode cX1_seek 74 = .ok (.iinc 5 1, 3) := by decide +kernel
theorem dX1_seek_77 : decode cX1_seek 77 = .ok (.goto (-50), 3) := by decide +kernel
theorem dX1_seek_80 : decode cX1_seek 80 = .ok (.iinc 4 1, 3) := by decide +kernel
theorem dX1_seek_83 : decode cX1_seek 83 = .ok (.goto (-68), 3) := by decide +kernel
theorem dX1_seek_86 : decode cX1_seek 86 = .ok (.aload_n 0, 1) := by decide +kernel
theorem dX1_seek_87 : decode cX1_seek 87 = .ok (.getfield 15, 3) := by decide +kernel
theorem dX1_seek_90 : decode cX1_seek 90 = .ok (.ireturn, 1) := by decide +kernel
theorem dX1_offer_0 : decode cX1_offer 0 = .ok (.aload_n 2, 1) := by decide +kernel
theorem dX1_offer_1 : decode cX1_offer 1 = .ok (.aload_n 1, 1) := by decide +kernel
theorem dX1_offer_2 : decode cX1_offer 2 = .ok (.iload 4, 2) := by decide +kernel
theorem dX1_offer_4 : decode cX1_offer 4 = .ok (.invokevirtual 34, 3) := by decide +kernel
theorem dX1_offer_7 : decode cX1_offer 7 = .ok (.istore 6, 2) := by decide +kernel
theorem dX1_offer_9 : decode cX1_offer 9 = .ok (.iconst 0, 1) := by decide +kernel
theorem dX1_offer_10 : decode cX1_offer 10 = .ok (.istore 7, 2) := by decide +kernel
theorem dX1_offer_12 : decode cX1_offer 12 = .ok (.iload 7, 2) := by decide +kernel
theorem dX1_offer_14 : decode cX1_offer 14 = .ok (.aload_n 2, 1) := by decide +kernel
theorem dX1_offer_15 : decode cX1_offer 15 = .ok (.getfield 31, 3) := by decide +kernel
theorem dX1_offer_18 : decode cX1_offer 18 = .ok (.iload 4, 2) := by decide +kernel
theorem dX1_offer_20 : decode cX1_offer 20 = .ok (.iaload, 1) := by decide +kernel
theorem dX1_offer_21 : decode cX1_offer 21 = .ok (.if_icmp .gt 88, 3) := by decide +kernel
theorem dX1_offer_24 : decode cX1_offer 24 = .ok (.iload 5, 2) := by decide +kernel
theorem dX1_offer_26 : decode cX1_offer 26 = .ok (.iload 7, 2) := by decide +kernel
theorem dX1_offer_28 : decode cX1_offer 28 = .ok (.iload 6, 2) := by decide +kernel
theorem dX1_offer_30 : decode cX1_offer 30 = .ok (.imul, 1) := by decide +kernel
theorem dX1_offer_31 : decode cX1_offer 31 = .ok (.isub, 1) := by decide +kernel
theorem dX1_offer_32 : decode cX1_offer 32 = .ok (.ifCond .gt 71, 3) := by decide +kernel
theorem dX1_offer_35 : decode cX1_offer 35 = .ok (.aload_n 0, 1) := by decide +kernel
theorem dX1_offer_36 : decode cX1_offer 36 = .ok (.aload_n 1, 1) := by decide +kernel
theorem dX1_offer_37 : decode cX1_offer 37 = .ok (.aload_n 2, 1) := by decide +kernel
theorem dX1_offer_38 : decode cX1_offer 38 = .ok (.iload_n 3, 1) := by decide +kernel
theorem dX1_offer_39 : decode cX1_offer 39 = .ok (.iload 4, 2) := by decide +kernel
theorem dX1_offer_41 : decode cX1_offer 41 = .ok (.iload 7, 2) := by decide +kernel
theorem dX1_offer_43 : decode cX1_offer 43 = .ok (.invokevirtual 42, 3) := by decide +kernel
theorem dX1_offer_46 : decode cX1_offer 46 = .ok (.istore 8, 2) := by decide +kernel
theorem dX1_offer_48 : decode cX1_offer 48 = .ok (.aload_n 0, 1) := by decide +kernel
theorem dX1_offer_49 : decode cX1_offer 49 = .ok (.getfield 15, 3) := by decide +kernel
theorem dX1_offer_52 : decode cX1_offer 52 = .ok (.ifCond .eq 14, 3) := by decide +kernel
theorem dX1_offer_55 : decode cX1_offer 55 = .ok (.iload 8, 2) := by decide +kernel
theorem dX1_offer_57 : decode cX1_offer 57 = .ok (.aload_n 0, 1) := by decide +kernel
theorem dX1_offer_58 : decode cX1_offer 58 = .ok (.getfield 9, 3) := by decide +kernel
theorem dX1_offer_61 : decode cX1_offer 61 = .ok (.iconst 0, 1) := by decide +kernel
theorem dX1_offer_62 : decode cX1_offer 62 = .ok (.iaload, 1) := by decide +kernel
theorem dX1_offer_63 : decode cX1_offer 63 = .ok (.if_icmp .le 39, 3) := by decide +kernel
theorem dX1_offer_66 : decode cX1_offer 66 = .ok (.aload_n 0, 1) := by decide +kernel
theorem dX1_offer_67 : decode cX1_offer 67 = .ok (.iconst 1, 1) := by decide +kernel
theorem dX1_offer_68 : decode cX1_offer 68 = .ok (.putfield 15, 3) := by decide +kernel
theorem dX1_offer_71 : decode cX1_offer 71 = .ok (.aload_n 0, 1) := by decide +kernel
theorem dX1_offer_72 : decode cX1_offer 72 = .ok (.getfield 9, 3) := by decide +kernel
theorem dX1_offer_75 : decode cX1_offer 75 = .ok (.iconst 0, 1) := by decide +kernel
theorem dX1_offer_76 : decode cX1_offer 76 = .ok (.iload 8, 2) := by decide +kernel
theorem dX1_offer_78 : decode cX1_offer 78 = .ok (.iastore, 1) := by decide +kernel
theorem dX1_offer_79 : decode cX1_offer 79 = .ok (.aload_n 0, 1) := by decide +kernel
theorem dX1_offer_80 : decode cX1_offer 80 = .ok (.getfield 9, 3) := by decide +kernel
theorem dX1_offer_83 : decode cX1_offer 83 = .ok (.iconst 1, 1) := by decide +kernel
theorem dX1_offer_84 : decode cX1_offer 84 = .ok (.iload_n 3, 1) := by decide +kernel
theorem dX1_offer_85 : decode cX1_offer 85 = .ok (.iastore, 1) := by decide +kernel
theorem dX1_offer_86 : decode cX1_offer 86 = .ok (.aload_n 0, 1) := by decide +kernel
theorem dX1_offer_87 : decode cX1_offer 87 = .ok (.getfield 9, 3) := by decide +kernel
theorem dX1_offer_90 : decode cX1_offer 90 = .ok (.iconst 2, 1) := by decide +kernel
theorem dX1_offer_91 : decode cX1_offer 91 = .ok (.iload 4, 2) := by decide +kernel
theorem dX1_offer_93 : decode cX1_offer 93 = .ok (.iastore, 1) := by decide +kernel
theorem dX1_offer_94 : decode cX1_offer 94 = .ok (.aload_n 0, 1) := by decide +kernel
theorem dX1_offer_95 : decode cX1_offer 95 = .ok (.getfield 9, 3) := by decide +kernel
theorem dX1_offer_98 : decode cX1_offer 98 = .ok (.iconst 3, 1) := by decide +kernel
theorem dX1_offer_99 : decode cX1_offer 99 = .ok (.iload 7, 2) := by decide +kernel
theorem dX1_offer_101 : decode cX1_offer 101 = .ok (.iastore, 1) := by decide +kernel
theorem dX1_offer_102 : decode cX1_offer 102 = .ok (.return_, 1) := by decide +kernel
theorem dX1_offer_103 : decode cX1_offer 103 = .ok (.iinc 7 1, 3) := by decide +kernel
theorem dX1_offer_106 : decode cX1_offer 106 = .ok (.goto (-94), 3) := by decide +kernel
theorem dX1_offer_109 : decode cX1_offer 109 = .ok (.return_, 1) := by decide +kernel
theorem dX1_profitThen_0 : decode cX1_profitThen 0 = .ok (.iconst 0, 1) := by decide +kernel
theorem dX1_profitThen_1 : decode cX1_profitThen 1 = .ok (.istore 6, 2) := by decide +kernel
theorem dX1_profitThen_3 : decode cX1_profitThen 3 = .ok (.iconst 0, 1) := by decide +kernel
theorem dX1_profitThen_4 : decode cX1_profitThen 4 = .ok (.istore 7, 2) := by decide +kernel
theorem dX1_profitThen_6 : decode cX1_profitThen 6 = .ok (.iload 7, 2) := by decide +kernel
theorem dX1_profitThen_8 : decode cX1_profitThen 8 = .ok (.aload_n 1, 1) := by decide +kernel
theorem dX1_profitThen_9 : decode cX1_profitThen 9 = .ok (.getfield 25, 3) := by decide +kernel
theorem dX1_profitThen_12 : decode cX1_profitThen 12 = .ok (.if_icmp .ge 62, 3) := by decide +kernel
theorem dX1_profitThen_15 : decode cX1_profitThen 15 = .ok (.aload_n 2, 1) := by decide +kernel
theorem dX1_profitThen_16 : decode cX1_profitThen 16 = .ok (.getfield 31, 3) := by decide +kernel
theorem dX1_profitThen_19 : decode cX1_profitThen 19 = .ok (.iload 7, 2) := by decide +kernel
theorem dX1_profitThen_21 : decode cX1_profitThen 21 = .ok (.iaload, 1) := by decide +kernel
theorem dX1_profitThen_22 : decode cX1_profitThen 22 = .ok (.iload 7, 2) := by decide +kernel
theorem dX1_profitThen_24 : decode cX1_profitThen 24 = .ok (.iload_n 3, 1) := by decide +kernel
theorem dX1_profitThen_25 : decode cX1_profitThen 25 = .ok (.if_icmp .ne 7, 3) := by decide +kernel
theorem dX1_profitThen_28 : decode cX1_profitThen 28 = .ok (.iconst 1, 1) := by decide +kernel
theorem dX1_profitThen_29 : decode cX1_profitThen 29 = .ok (.goto 4, 3) := by decide +kernel
theorem dX1_profitThen_32 : decode cX1_profitThen 32 = .ok (.iconst 0, 1) := by decide +kernel
theorem dX1_profitThen_33 : decode cX1_profitThen 33 = .ok (.iadd, 1) := by decide +kernel
theorem dX1_profitThen_34 : decode cX1_profitThen 34 = .ok (.iload 7, 2) := by decide +kernel
theorem dX1_profitThen_36 : decode cX1_profitThen 36 = .ok (.iload 4, 2) := by decide +kernel
theorem dX1_profitThen_38 : decode cX1_profitThen 38 = .ok (.if_icmp .ne 8, 3) := by decide +kernel
theorem dX1_profitThen_41 : decode cX1_profitThen 41 = .ok (.iload 5, 2) := by decide +kernel
theorem dX1_profitThen_43 : decode cX1_profitThen 43 = .ok (.goto 4, 3) := by decide +kernel
theorem dX1_profitThen_46 : decode cX1_profitThen 46 = .ok (.iconst 0, 1) := by decide +kernel
theorem dX1_profitThen_47 : decode cX1_profitThen 47 = .ok (.isub, 1) := by decide +kernel
theorem dX1_profitThen_48 : decode cX1_profitThen 48 = .ok (.istore 8, 2) := by decide +kernel
theorem dX1_profitThen_50 : decode cX1_profitThen 50 = .ok (.iload 6, 2) := by decide +kernel
theorem dX1_profitThen_52 : decode cX1_profitThen 52 = .ok (.aload_n 1, 1) := by decide +kernel
theorem dX1_profitThen_53 : decode cX1_profitThen 53 = .ok (.getfield 46, 3) := by decide +kernel
theorem dX1_profitThen_56 : decode cX1_profitThen 56 = .ok (.iload 7, 2) := by decide +kernel
theorem dX1_profitThen_58 : decode cX1_profitThen 58 = .ok (.bipush 21, 2) := by decide +kernel
theorem dX1_profitThen_60 : decode cX1_profitThen 60 = .ok (.imul, 1) := by decide +kernel
theorem dX1_profitThen_61 : decode cX1_profitThen 61 = .ok (.iload 8, 2) := by decide +kernel
theorem dX1_profitThen_63 : decode cX1_profitThen 63 = .ok (.iadd, 1) := by decide +kernel
theorem dX1_profitThen_64 : decode cX1_profitThen 64 = .ok (.iaload, 1) := by decide +kernel
theorem dX1_profitThen_65 : decode cX1_profitThen 65 = .ok (.iadd, 1) := by decide +kernel
theorem dX1_profitThen_66 : decode cX1_profitThen 66 = .ok (.istore 6, 2) := by decide +kernel
theorem dX1_profitThen_68 : decode cX1_profitThen 68 = .ok (.iinc 7 1, 3) := by decide +kernel
theorem dX1_profitThen_71 : decode cX1_profitThen 71 = .ok (.goto (-65), 3) := by decide +kernel
theorem dX1_profitThen_74 : decode cX1_profitThen 74 = .ok (.iload 6, 2) := by decide +kernel
theorem dX1_profitThen_76 : decode cX1_profitThen 76 = .ok (.ireturn, 1) := by decide +kernel
theorem dX2_init_0 : decode cX2_init 0 = .ok (.aload_n 0, 1) := by decide +kernel
theorem dX2_init_1 : decode cX2_init 1 = .ok (.invokespecial 3, 3) := by decide +kernel
theorem dX2_init_4 : decode cX2_init 4 = .ok (.aload_n 0, 1) := by decide +kernel
theorem dX2_init_5 : decode cX2_init 5 = .ok (.new 9, 3) := by decide +kernel
theorem dX2_init_8 : decode cX2_init 8 = .ok (.dup, 1) := by decide +kernel
theorem dX2_init_9 : decode cX2_init 9 = .ok (.invokespecial 11, 3) := by decide +kernel
theorem dX2_init_12 : decode cX2_init 12 = .ok (.putfield 12, 3) := by decide +kernel
theorem dX2_init_15 : decode cX2_init 15 = .ok (.aload_n 0, 1) := by decide +kernel
theorem dX2_init_16 : decode cX2_init 16 = .ok (.new 9, 3) := by decide +kernel
theorem dX2_init_19 : decode cX2_init 19 = .ok (.dup, 1) := by decide +kernel
theorem dX2_init_20 : decode cX2_init 20 = .ok (.invokespecial 11, 3) := by decide +kernel
theorem dX2_init_23 : decode cX2_init 23 = .ok (.putfield 18, 3) := by decide +kernel
theorem dX2_init_26 : decode cX2_init 26 = .ok (.aload_n 0, 1) := by decide +kernel
theorem dX2_init_27 : decode cX2_init 27 = .ok (.new 9, 3) := by decide +kernel
theorem dX2_init_30 : decode cX2_init 30 = .ok (.dup, 1) := by decide +kernel
theorem dX2_init_31 : decode cX2_init 31 = .ok (.invokespecial 11, 3) := by decide +kernel
theorem dX2_init_34 : decode cX2_init 34 = .ok (.putfield 21, 3) := by decide +kernel
theorem dX2_init_37 : decode cX2_init 37 = .ok (.aload_n 0, 1) := by decide +kernel
theorem dX2_init_38 : decode cX2_init 38 = .ok (.new 9, 3) := by decide +kernel
theorem dX2_init_41 : decode cX2_init 41 = .ok (.dup, 1) := by decide +kernel
theorem dX2_init_42 : decode cX2_init 42 = .ok (.invokespecial 11, 3) := by decide +kernel
theorem dX2_init_45 : decode cX2_init 45 = .ok (.putfield 24, 3) := by decide +kernel
theorem dX2_init_48 : decode cX2_init 48 = .ok (.aload_n 0, 1) := by decide +kernel
theorem dX2_init_49 : decode cX2_init 49 = .ok (.aload_n 1, 1) := by decide +kernel
theorem dX2_init_50 : decode cX2_init 50 = .ok (.putfield 27, 3) := by decide +kernel
theorem dX2_init_53 : decode cX2_init 53 = .ok (.return_, 1) := by decide +kernel
theorem dX2_forget_0 : decode cX2_forget 0 = .ok (.aload_n 0, 1) := by decide +kernel
theorem dX2_forget_1 : decode cX2_forget 1 = .ok (.getfield 12, 3) := by decide +kernel
theorem dX2_forget_4 : decode cX2_forget 4 = .ok (.iconst 0, 1) := by decide +kernel
theorem dX2_forget_5 : decode cX2_forget 5 = .ok (.putfield 31, 3) := by decide +kernel
theorem dX2_forget_8 : decode cX2_forget 8 = .ok (.aload_n 0, 1) := by decide +kernel
theorem dX2_forget_9 : decode cX2_forget 9 = .ok (.getfield 18, 3) := by decide +kernel
theorem dX2_forget_12 : decode cX2_forget 12 = .ok (.iconst 0, 1) := by decide +kernel
theorem dX2_forget_13 : decode cX2_forget 13 = .ok (.putfield 31, 3) := by decide +kernel
theorem dX2_forget_16 : decode cX2_forget 16 = .ok (.aload_n 0, 1) := by decide +kernel
theorem dX2_forget_17 : decode cX2_forget 17 = .ok (.getfield 21, 3) := by decide +kernel
theorem dX2_forget_20 : decode cX2_forget 20 = .ok (.iconst 0, 1) := by decide +kernel
theorem dX2_forget_21 : decode cX2_forget 21 = .ok (.putfield 31, 3) := by decide +kernel
theorem dX2_forget_24 : decode cX2_forget 24 = .ok (.aload_n 0, 1) := by decide +kernel
theorem dX2_forget_25 : decode cX2_forget 25 = .ok (.getfield 24, 3) := by decide +kernel
theorem dX2_forget_28 : decode cX2_forget 28 = .ok (.iconst 0, 1) := by decide +kernel
theorem dX2_forget_29 : decode cX2_forget 29 = .ok (.putfield 31, 3) := by decide +kernel
theorem dX2_forget_32 : decode cX2_forget 32 = .ok (.aload_n 0, 1) := by decide +kernel
theorem dX2_forget_33 : decode cX2_forget 33 = .ok (.iconst (-1), 1) := by decide +kernel
theorem dX2_forget_34 : decode cX2_forget 34 = .ok (.putfield 35, 3) := by decide +kernel
theorem dX2_forget_37 : decode cX2_forget 37 = .ok (.return_, 1) := by decide +kernel
theorem dX2_findBest_0 : decode cX2_findBest 0 = .ok (.aload_n 0, 1) := by decide +kernel
theorem dX2_findBest_1 : decode cX2_findBest 1 = .ok (.getfield 12, 3) := by decide +kernel
theorem dX2_findBest_4 : decode cX2_findBest 4 = .ok (.getfield 31, 3) := by decide +kernel
theorem dX2_findBest_7 : decode cX2_findBest 7 = .ok (.ifCond .ne 27, 3) := by decide +kernel
theorem dX2_findBest_10 : decode cX2_findBest 10 = .ok (.aload_n 0, 1) := by decide +kernel
theorem dX2_findBest_11 : decode cX2_findBest 11 = .ok (.getfield 27, 3) := by decide +kernel
theorem dX2_findBest_14 : decode cX2_findBest 14 = .ok (.aload_n 1, 1) := by decide +kernel
theorem dX2_findBest_15 : decode cX2_findBest 15 = .ok (.aload_n 2, 1) := by decide +kernel
theorem dX2_findBest_16 : decode cX2_findBest 16 = .ok (.invokevirtual 39, 3) := by decide +kernel
theorem dX2_findBest_19 : decode cX2_findBest 19 = .ok (.aload_n 0, 1) := by decide +kernel
theorem dX2_findBest_20 : decode cX2_findBest 20 = .ok (.getfield 27, 3) := by decide +kernel
theorem dX2_findBest_23 : decode cX2_findBest 23 = .ok (.aload_n 1, 1) := by decide +kernel
theorem dX2_findBest_24 : decode cX2_findBest 24 = .ok (.getfield 45, 3) := by decide +kernel
theorem dX2_findBest_27 : decode cX2_findBest 27 = .ok (.aload_n 0, 1) := by decide +kernel
theorem dX2_findBest_28 : decode cX2_findBest 28 = .ok (.getfield 12, 3) := by decide +kernel
theorem dX2_findBest_31 : decode cX2_findBest 31 = .ok (.invokevirtual 51, 3) := by decide +kernel
theorem dX2_findBest_34 : decode cX2_findBest 34 = .ok (.aload_n 0, 1) := by decide +kernel
theorem dX2_findBest_35 : decode cX2_findBest 35 = .ok (.getfield 12, 3) := by decide +kernel
theorem dX2_findBest_38 : decode cX2_findBest 38 = .ok (.areturn, 1) := by decide +kernel
theorem dX2_findFair_0 : decode cX2_findFair 0 = .ok (.aload_n 0, 1) := by decide +kernel
theorem dX2_findFair_1 : decode cX2_findFair 1 = .ok (.getfield 18, 3) := by decide +kernel
theorem dX2_findFair_4 : decode cX2_findFair 4 = .ok (.getfield 31, 3) := by decide +kernel
theorem dX2_findFair_7 : decode cX2_findFair 7 = .ok (.ifCond .ne 27, 3) := by decide +kernel
theorem dX2_findFair_10 : decode cX2_findFair 10 = .ok (.aload_n 0, 1) := by decide +kernel
theorem dX2_findFair_11 : decode cX2_findFair 11 = .ok (.getfield 27, 3) := by decide +kernel
theorem dX2_findFair_14 : decode cX2_findFair 14 = .ok (.aload_n 1, 1) := by decide +kernel
theorem dX2_findFair_15 : decode cX2_findFair 15 = .ok (.aload_n 2, 1) := by decide +kernel
theorem dX2_findFair_16 : decode cX2_findFair 16 = .ok (.invokevirtual 39, 3) := by decide +kernel
theorem dX2_findFair_19 : decode cX2_findFair 19 = .ok (.aload_n 0, 1) := by decide +kernel
theorem dX2_findFair_20 : decode cX2_findFair 20 = .ok (.getfield 27, 3) := by decide +kernel
theorem dX2_findFair_23 : decode cX2_findFair 23 = .ok (.aload_n 1, 1) := by decide +kernel
theorem dX2_findFair_24 : decode cX2_findFair 24 = .ok (.getfield 55, 3) := by decide +kernel
theorem dX2_findFair_27 : decode cX2_findFair 27 = .ok (.aload_n 0, 1) := by decide +kernel
theorem dX2_findFair_28 : decode cX2_findFair 28 = .ok (.getfield 18, 3) := by decide +kernel
theorem dX2_findFair_31 : decode cX2_findFair 31 = .ok (.invokevirtual 51, 3) := by decide +kernel
theorem dX2_findFair_34 : decode cX2_findFair 34 = .ok (.aload_n 0, 1) := by decide +kernel
theorem dX2_findFair_35 : decode cX2_findFair 35 = .ok (.getfield 18, 3) := by decide +kernel
theorem dX2_findFair_38 : decode cX2_findFair 38 = .ok (.areturn, 1) := by decide +kernel
theorem dX2_findGentle_0 : decode cX2_findGentle 0 = .ok (.aload_n 0, 1) := by decide +kernel
theorem dX2_findGentle_1 : decode cX2_findGentle 1 = .ok (.getfield 21, 3) := by decide +kernel
theorem dX2_findGentle_4 : decode cX2_findGentle 4 = .ok (.getfield 31, 3) := by decide +kernel
theorem dX2_findGentle_7 : decode cX2_findGentle 7 = .ok (.ifCond .ne 53, 3) := by decide +kernel
theorem dX2_findGentle_10 : decode cX2_findGentle 10 = .ok (.aload_n 0, 1) := by decide +kernel
theorem dX2_findGentle_11 : decode cX2_findGentle 11 = .ok (.getfield 27, 3) := by decide +kernel
theorem dX2_findGentle_14 : decode cX2_findGentle 14 = .ok (.aload_n 1, 1) := by decide +kernel
theorem dX2_findGentle_15 : decode cX2_findGentle 15 = .ok (.aload_n 2, 1) := by decide +kernel
theorem dX2_findGentle_16 : decode cX2_findGentle 16 = .ok (.invokevirtual 39, 3) := by decide +kernel
theorem dX2_findGentle_19 : decode cX2_findGentle 19 = .ok (.iconst 0, 1) := by decide +kernel
theorem dX2_findGentle_20 : decode cX2_findGentle 20 = .ok (.istore_n 3, 1) := by decide +kernel
theorem dX2_findGentle_21 : decode cX2_findGentle 21 = .ok (.iload_n 3, 1) := by decide +kernel
theorem dX2_findGentle_22 : decode cX2_findGentle 22 = .ok (.aload_n 1, 1) := by decide +kernel
theorem dX2_findGentle_23 : decode cX2_findGentle 23 = .ok (.getfield 58, 3) := by decide +kernel
theorem dX2_findGentle_26 : decode cX2_findGentle 26 = .ok (.if_icmp .ge 19, 3) := by decide +kernel
theorem dX2_findGentle_29 : decode cX2_findGentle 29 = .ok (.aload_n 0, 1) := by decide +kernel
theorem dX2_findGentle_30 : decode cX2_findGentle 30 = .ok (.getfield 27, 3) := by decide +kernel
theorem dX2_findGentle_33 : decode cX2_findGentle 33 = .ok (.aload_n 1, 1) := by decide +kernel
theorem dX2_findGentle_34 : decode cX2_findGentle 34 = .ok (.aload_n 2, 1) := by decide +kernel
theorem dX2_findGentle_35 : decode cX2_findGentle 35 = .ok (.iload_n 3, 1) := by decide +kernel
theorem dX2_findGentle_36 : decode cX2_findGentle 36 = .ok (.invokevirtual 61, 3) := by decide +kernel
theorem dX2_findGentle_39 : decode cX2_findGentle 39 = .ok (.iinc 3 1, 3) := by decide +kernel
theorem dX2_findGentle_42 : decode cX2_findGentle 42 = .ok (.goto (-21), 3) := by decide +kernel
theorem dX2_findGentle_45 : decode cX2_findGentle 45 = .ok (.aload_n 0, 1) := by decide +kernel
theorem dX2_findGentle_46 : decode cX2_findGentle 46 = .ok (.getfield 27, 3) := by decide +kernel
theorem dX2_findGentle_49 : decode cX2_findGentle 49 = .ok (.aload_n 1, 1) := by decide +kernel
theorem dX2_findGentle_50 : decode cX2_findGentle 50 = .ok (.getfield 45, 3) := by decide +kernel
theorem dX2_findGentle_53 : decode cX2_findGentle 53 = .ok (.aload_n 0, 1) := by decide +kernel
theorem dX2_findGentle_54 : decode cX2_findGentle 54 = .ok (.getfield 21, 3) := by decide +kernel
theorem dX2_findGentle_57 : decode cX2_findGentle 57 = .ok (.invokevirtual 51, 3) := by decide +kernel
theorem dX2_findGentle_60 : decode cX2_findGentle 60 = .ok (.aload_n 0, 1) := by decide +kernel
theorem dX2_findGentle_61 : decode cX2_findGentle 61 = .ok (.getfield 21, 3) := by decide +kernel
theorem dX2_findGentle_64 : decode cX2_findGentle 64 = .ok (.areturn, 1) := by decide +kernel
theorem dX2_findSteady_0 : decode cX2_findSteady 0 = .ok (.aload_n 0, 1) := by decide +kernel
theorem dX2_findSteady_1 : decode cX2_findSteady 1 = .ok (.getfield 24, 3) := by decide +kernel
theorem dX2_findSteady_4 : decode cX2_findSteady 4 = .ok (.getfield 31, 3) := by decide +kernel
theorem dX2_findSteady_7 : decode cX2_findSteady 7 = .ok (.ifCond .eq 11, 3) := by decide +kernel
theorem dX2_findSteady_10 : decode cX2_findSteady 10 = .ok (.aload_n 0, 1) := by decide +kernel
theorem dX2_findSteady_11 : decode cX2_findSteady 11 = .ok (.getfield 65, 3) := by decide +kernel
theorem dX2_findSteady_14 : decode cX2_findSteady 14 = .ok (.iload_n 3, 1) := by decide +kernel
theorem dX2_findSteady_15 : decode cX2_findSteady 15 = .ok (.if_icmp .eq 44, 3) := by decide +kernel
theorem dX2_findSteady_18 : decode cX2_findSteady 18 = .ok (.aload_n 0, 1) := by decide +kernel
theorem dX2_findSteady_19 : decode cX2_findSteady 19 = .ok (.getfield 27, 3) := by decide +kernel
theorem dX2_findSteady_22 : decode cX2_findSteady 22 = .ok (.aload_n 1, 1) := by decide +kernel
theorem dX2_findSteady_23 : decode cX2_findSteady 23 = .ok (.aload_n 2, 1) := by decide +kernel
theorem dX2_findSteady_24 : decode cX2_findSteady 24 = .ok (.invokevirtual 39, 3) := by decide +kernel
theorem dX2_findSteady_27 : decode cX2_findSteady 27 = .ok (.aload_n 0, 1) := by decide +kernel
theorem dX2_findSteady_28 : decode cX2_findSteady 28 = .ok (.getfield 27, 3) := by decide +kernel
theorem dX2_findSteady_31 : decode cX2_findSteady 31 = .ok (.aload_n 2, 1) := by decide +kernel
theorem dX2_findSteady_32 : decode cX2_findSteady 32 = .ok (.getfield 68, 3) := by decide +kernel
theorem dX2_findSteady_35 : decode cX2_findSteady 35 = .ok (.iload_n 3, 1) := by decide +kernel
theorem dX2_findSteady_36 : decode cX2_findSteady 36 = .ok (.invokevirtual 73, 3) := by decide +kernel
theorem dX2_findSteady_39 : decode cX2_findSteady 39 = .ok (.aload_n 0, 1) := by decide +kernel
theorem dX2_findSteady_40 : decode cX2_findSteady 40 = .ok (.getfield 27, 3) := by decide +kernel
theorem dX2_findSteady_43 : decode cX2_findSteady 43 = .ok (.aload_n 1, 1) := by decide +kernel
theorem dX2_findSteady_44 : decode cX2_findSteady 44 = .ok (.getfield 45, 3) := by decide +kernel
theorem dX2_findSteady_47 : decode cX2_findSteady 47 = .ok (.aload_n 0, 1) := by decide +kernel
theorem dX2_findSteady_48 : decode cX2_findSteady 48 = .ok (.getfield 24, 3) := by decide +kernel
theorem dX2_findSteady_51 : decode cX2_findSteady 51 = .ok (.invokevirtual 51, 3) := by decide +kernel
theorem dX2_findSteady_54 : decode cX2_findSteady 54 = .ok (.aload_n 0, 1) := by decide +kernel
theorem dX2_findSteady_55 : decode cX2_findSteady 55 = .ok (.iload_n 3, 1) := by decide +kernel
theorem dX2_findSteady_56 : decode cX2_findSteady 56 = .ok (.putfield 65, 3) := by decide +kernel
theorem dX2_findSteady_59 : decode cX2_findSteady 59 = .ok (.aload_n 0, 1) := by decide +kernel
theorem dX2_findSteady_60 : decode cX2_findSteady 60 = .ok (.getfield 24, 3) := by decide +kernel
theorem dX2_findSteady_63 : decode cX2_findSteady 63 = .ok (.areturn, 1) := by decide +kernel
theorem dX2_countRows_0 : decode cX2_countRows 0 = .ok (.aload_n 0, 1) := by decide +kernel
theorem dX2_countRows_1 : decode cX2_countRows 1 = .ok (.getfield 35, 3) := by decide +kernel
theorem dX2_countRows_4 : decode cX2_countRows 4 = .ok (.iconst (-1), 1) := by decide +kernel
theorem dX2_countRows_5 : decode cX2_countRows 5 = .ok (.if_icmp .ne 23, 3) := by decide +kernel
theorem dX2_countRows_8 : decode cX2_countRows 8 = .ok (.aload_n 0, 1) := by decide +kernel
theorem dX2_countRows_9 : decode cX2_countRows 9 = .ok (.getfield 27, 3) := by decide +kernel
theorem dX2_countRows_12 : decode cX2_countRows 12 = .ok (.aload_n 1, 1) := by decide +kernel
theorem dX2_countRows_13 : decode cX2_countRows 13 = .ok (.aload_n 2, 1) := by decide +kernel
theorem dX2_countRows_14 : decode cX2_countRows 14 = .ok (.invokevirtual 39, 3) := by decide +kernel
theorem dX2_countRows_17 : decode cX2_countRows 17 = .ok (.aload_n 0, 1) := by decide +kernel
theorem dX2_countRows_18 : decode cX2_countRows 18 = .ok (.aload_n 0, 1) := by decide +kernel
theorem dX2_countRows_19 : decode cX2_countRows 19 = .ok (.getfield 27, 3) := by decide +kernel
theorem dX2_countRows_22 : decode cX2_countRows 22 = .ok (.invokevirtual 77, 3) := by decide +kernel
theorem dX2_countRows_25 : decode cX2_countRows 25 = .ok (.putfield 35, 3) := by decide +kernel
theorem dX2_countRows_28 : decode cX2_countRows 28 = .ok (.aload_n 0, 1) := by decide +kernel
theorem dX2_countRows_29 : decode cX2_countRows 29 = .ok (.getfield 35, 3) := by decide +kernel
theorem dX2_countRows_32 : decode cX2_countRows 32 = .ok (.ireturn, 1) := by decide +kernel
theorem dX3_init_0 : decode cX3_init 0 = .ok (.aload_n 0, 1) := by decide +kernel
theorem dX3_init_1 : decode cX3_init 1 = .ok (.invokespecial 1, 3) := by decide +kernel
theorem dX3_init_4 : decode cX3_init 4 = .ok (.aload_n 0, 1) := by decide +kernel
theorem dX3_init_5 : decode cX3_init 5 = .ok (.new 7, 3) := by decide +kernel
theorem dX3_init_8 : decode cX3_init 8 = .ok (.dup, 1) := by decide +kernel
theorem dX3_init_9 : decode cX3_init 9 = .ok (.invokespecial 9, 3) := by decide +kernel
theorem dX3_init_12 : decode cX3_init 12 = .ok (.putfield 10, 3) := by decide +kernel
theorem dX3_init_15 : decode cX3_init 15 = .ok (.aload_n 0, 1) := by decide +kernel
theorem dX3_init_16 : decode cX3_init 16 = .ok (.new 16, 3) := by decide +kernel
theorem dX3_init_19 : decode cX3_init 19 = .ok (.dup, 1) := by decide +kernel
theorem dX3_init_20 : decode cX3_init 20 = .ok (.invokespecial 18, 3) := by decide +kernel
theorem dX3_init_23 : decode cX3_init 23 = .ok (.putfield 19, 3) := by decide +kernel
theorem dX3_init_26 : decode cX3_init 26 = .ok (.return_, 1) := by decide +kernel
theorem dX3_take_0 : decode cX3_take 0 = .ok (.aload_n 0, 1) := by decide +kernel
theorem dX3_take_1 : decode cX3_take 1 = .ok (.iconst 1, 1) := by decide +kernel
theorem dX3_take_2 : decode cX3_take 2 = .ok (.putfield 23, 3) := by decide +kernel
theorem dX3_take_5 : decode cX3_take 5 = .ok (.aload_n 0, 1) := by decide +kernel
theorem dX3_take_6 : decode cX3_take 6 = .ok (.getfield 10, 3) := by decide +kernel
theorem dX3_take_9 : decode cX3_take 9 = .ok (.aload_n 1, 1) := by decide +kernel
theorem dX3_take_10 : decode cX3_take 10 = .ok (.invokevirtual 27, 3) := by decide +kernel
theorem dX3_take_13 : decode cX3_take 13 = .ok (.aload_n 0, 1) := by decide +kernel
theorem dX3_take_14 : decode cX3_take 14 = .ok (.getfield 19, 3) := by decide +kernel
theorem dX3_take_17 : decode cX3_take 17 = .ok (.aload_n 2, 1) := by decide +kernel
theorem dX3_take_18 : decode cX3_take 18 = .ok (.aload_n 1, 1) := by decide +kernel
theorem dX3_take_19 : decode cX3_take 19 = .ok (.getfield 31, 3) := by decide +kernel
theorem dX3_take_22 : decode cX3_take 22 = .ok (.invokevirtual 35, 3) := by decide +kernel
theorem dX3_take_25 : decode cX3_take 25 = .ok (.return_, 1) := by decide +kernel
theorem dX3_give_0 : decode cX3_give 0 = .ok (.aload_n 1, 1) := by decide +kernel
theorem dX3_give_1 : decode cX3_give 1 = .ok (.aload_n 0, 1) := by decide +kernel
theorem dX3_give_2 : decode cX3_give 2 = .ok (.getfield 10, 3) := by decide +kernel
theorem dX3_give_5 : decode cX3_give 5 = .ok (.invokevirtual 27, 3) := by decide +kernel
theorem dX3_give_8 : decode cX3_give 8 = .ok (.aload_n 2, 1) := by decide +kernel
theorem dX3_give_9 : decode cX3_give 9 = .ok (.aload_n 0, 1) := by decide +kernel
theorem dX3_give_10 : decode cX3_give 10 = .ok (.getfield 19, 3) := by decide +kernel
theorem dX3_give_13 : decode cX3_give 13 = .ok (.aload_n 0, 1) := by decide +kernel
theorem dX3_give_14 : decode cX3_give 14 = .ok (.getfield 10, 3) := by decide +kernel
theorem dX3_give_17 : decode cX3_give 17 = .ok (.getfield 31, 3) := by decide +kernel
theorem dX3_give_20 : decode cX3_give 20 = .ok (.invokevirtual 35, 3) := by decide +kernel
theorem dX3_give_23 : decode cX3_give 23 = .ok (.return_, 1) := by decide +kernel
theorem dX4_init_0 : decode cX4_init 0 = .ok (.aload_n 0, 1) := by decide +kernel
theorem dX4_init_1 : decode cX4_init 1 = .ok (.invokespecial 3, 3) := by decide +kernel
theorem dX4_init_4 : decode cX4_init 4 = .ok (.aload_n 0, 1) := by decide +kernel
theorem dX4_init_5 : decode cX4_init 5 = .ok (.new 9, 3) := by decide +kernel
theorem dX4_init_8 : decode cX4_init 8 = .ok (.dup, 1) := by decide +kernel
theorem dX4_init_9 : decode cX4_init 9 = .ok (.invokespecial 11, 3) := by decide +kernel
theorem dX4_init_12 : decode cX4_init 12 = .ok (.putfield 12, 3) := by decide +kernel
theorem dX4_init_15 : decode cX4_init 15 = .ok (.aload_n 0, 1) := by decide +kernel
theorem dX4_init_16 : decode cX4_init 16 = .ok (.new 18, 3) := by decide +kernel
theorem dX4_init_19 : decode cX4_init 19 = .ok (.dup, 1) := by decide +kernel
theorem dX4_init_20 : decode cX4_init 20 = .ok (.invokespecial 20, 3) := by decide +kernel
theorem dX4_init_23 : decode cX4_init 23 = .ok (.putfield 21, 3) := by decide +kernel
theorem dX4_init_26 : decode cX4_init 26 = .ok (.aload_n 0, 1) := by decide +kernel
theorem dX4_init_27 : decode cX4_init 27 = .ok (.new 18, 3) := by decide +kernel
theorem dX4_init_30 : decode cX4_init 30 = .ok (.dup, 1) := by decide +kernel
theorem dX4_init_31 : decode cX4_init 31 = .ok (.invokespecial 20, 3) := by decide +kernel
theorem dX4_init_34 : decode cX4_init 34 = .ok (.putfield 25, 3) := by decide +kernel
theorem dX4_init_37 : decode cX4_init 37 = .ok (.aload_n 0, 1) := by decide +kernel
theorem dX4_init_38 : decode cX4_init 38 = .ok (.bipush 36, 2) := by decide +kernel
theorem dX4_init_40 : decode cX4_init 40 = .ok (.newarray .int, 2) := by decide +kernel
theorem dX4_init_42 : decode cX4_init 42 = .ok (.putfield 28, 3) := by decide +kernel
theorem dX4_init_45 : decode cX4_init 45 = .ok (.aload_n 0, 1) := by decide +kernel
theorem dX4_init_46 : decode cX4_init 46 = .ok (.iconst 4, 1) := by decide +kernel
theorem dX4_init_47 : decode cX4_init 47 = .ok (.newarray .int, 2) := by decide +kernel
theorem dX4_init_49 : decode cX4_init 49 = .ok (.putfield 32, 3) := by decide +kernel
theorem dX4_init_52 : decode cX4_init 52 = .ok (.aload_n 0, 1) := by decide +kernel
theorem dX4_init_53 : decode cX4_init 53 = .ok (.aload_n 1, 1) := by decide +kernel
theorem dX4_init_54 : decode cX4_init 54 = .ok (.putfield 35, 3) := by decide +kernel
theorem dX4_init_57 : decode cX4_init 57 = .ok (.return_, 1) := by decide +kernel
theorem dX4_forgetFresh_0 : decode cX4_forgetFresh 0 = .ok (.aload_n 0, 1) := by decide +kernel
theorem dX4_forgetFresh_1 : decode cX4_forgetFresh 1 = .ok (.iconst 0, 1) := by decide +kernel
theorem dX4_forgetFresh_2 : decode cX4_forgetFresh 2 = .ok (.putfield 39, 3) := by decide +kernel
theorem dX4_forgetFresh_5 : decode cX4_forgetFresh 5 = .ok (.aload_n 0, 1) := by decide +kernel
theorem dX4_forgetFresh_6 : decode cX4_forgetFresh 6 = .ok (.iconst 0, 1) := by decide +kernel
theorem dX4_forgetFresh_7 : decode cX4_forgetFresh 7 = .ok (.putfield 43, 3) := by decide +kernel
theorem dX4_forgetFresh_10 : decode cX4_forgetFresh 10 = .ok (.return_, 1) := by decide +kernel
theorem dX4_forgetAll_0 : decode cX4_forgetAll 0 = .ok (.aload_n 0, 1) := by decide +kernel
theorem dX4_forgetAll_1 : decode cX4_forgetAll 1 = .ok (.invokevirtual 46, 3) := by decide +kernel
theorem dX4_forgetAll_4 : decode cX4_forgetAll 4 = .ok (.aload_n 0, 1) := by decide +kernel
theorem dX4_forgetAll_5 : decode cX4_forgetAll 5 = .ok (.iconst (-1), 1) := by decide +kernel
theorem dX4_forgetAll_6 : decode cX4_forgetAll 6 = .ok (.putfield 49, 3) := by decide +kernel
theorem dX4_forgetAll_9 : decode cX4_forgetAll 9 = .ok (.return_, 1) := by decide +kernel
theorem dX4_walk_0 : decode cX4_walk 0 = .ok (.aload_n 0, 1) := by decide +kernel
theorem dX4_walk_1 : decode cX4_walk 1 = .ok (.getfield 49, 3) := by decide +kernel
theorem dX4_walk_4 : decode cX4_walk 4 = .ok (.iconst (-1), 1) := by decide +kernel
theorem dX4_walk_5 : decode cX4_walk 5 = .ok (.if_icmp .ne 54, 3) := by decide +kernel
theorem dX4_walk_8 : decode cX4_walk 8 = .ok (.aload_n 0, 1) := by decide +kernel
theorem dX4_walk_9 : decode cX4_walk 9 = .ok (.getfield 21, 3) := by decide +kernel
theorem dX4_walk_12 : decode cX4_walk 12 = .ok (.aload_n 2, 1) := by decide +kernel
theorem dX4_walk_13 : decode cX4_walk 13 = .ok (.invokevirtual 53, 3) := by decide +kernel
theorem dX4_walk_16 : decode cX4_walk 16 = .ok (.aload_n 0, 1) := by decide +kernel
theorem dX4_walk_17 : decode cX4_walk 17 = .ok (.getfield 28, 3) := by decide +kernel
theorem dX4_walk_20 : decode cX4_walk 20 = .ok (.iconst 0, 1) := by decide +kernel
theorem dX4_walk_21 : decode cX4_walk 21 = .ok (.iconst 0, 1) := by decide +kernel
theorem dX4_walk_22 : decode cX4_walk 22 = .ok (.iastore, 1) := by decide +kernel
theorem dX4_walk_23 : decode cX4_walk 23 = .ok (.aload_n 0, 1) := by decide +kernel
theorem dX4_walk_24 : decode cX4_walk 24 = .ok (.getfield 28, 3) := by decide +kernel
theorem dX4_walk_27 : decode cX4_walk 27 = .ok (.iconst 1, 1) := by decide +kernel
theorem dX4_walk_28 : decode cX4_walk 28 = .ok (.iconst 0, 1) := by decide +kernel
theorem dX4_walk_29 : decode cX4_walk 29 = .ok (.iastore, 1) := by decide +kernel
theorem dX4_walk_30 : decode cX4_walk 30 = .ok (.aload_n 0, 1) := by decide +kernel
theorem dX4_walk_31 : decode cX4_walk 31 = .ok (.getfield 28, 3) := by decide +kernel
theorem dX4_walk_34 : decode cX4_walk 34 = .ok (.iconst 2, 1) := by decide +kernel
theorem dX4_walk_35 : decode cX4_walk 35 = .ok (.aload_n 1, 1) := by decide +kernel
theorem dX4_walk_36 : decode cX4_walk 36 = .ok (.aload_n 0, 1) := by decide +kernel
theorem dX4_walk_37 : decode cX4_walk 37 = .ok (.getfield 21, 3) := by decide +kernel
theorem dX4_walk_40 : decode cX4_walk 40 = .ok (.getfield 57, 3) := by decide +kernel
theorem dX4_walk_43 : decode cX4_walk 43 = .ok (.invokevirtual 60, 3) := by decide +kernel
theorem dX4_walk_46 : decode cX4_walk 46 = .ok (.iastore, 1) := by decide +kernel
theorem dX4_walk_47 : decode cX4_walk 47 = .ok (.aload_n 0, 1) := by decide +kernel
theorem dX4_walk_48 : decode cX4_walk 48 = .ok (.getfield 28, 3) := by decide +kernel
theorem dX4_walk_51 : decode cX4_walk 51 = .ok (.iconst 3, 1) := by decide +kernel
theorem dX4_walk_52 : decode cX4_walk 52 = .ok (.iconst 0, 1) := by decide +kernel
theorem dX4_walk_53 : decode cX4_walk 53 = .ok (.iastore, 1) := by decide +kernel
theorem dX4_walk_54 : decode cX4_walk 54 = .ok (.aload_n 0, 1) := by decide +kernel
theorem dX4_walk_55 : decode cX4_walk 55 = .ok (.iconst 0, 1) := by decide +kernel
theorem dX4_walk_56 : decode cX4_walk 56 = .ok (.putfield 49, 3) := by decide +kernel
theorem dX4_walk_59 : decode cX4_walk 59 = .ok (.aload_n 0, 1) := by decide +kernel
theorem dX4_walk_60 : decode cX4_walk 60 = .ok (.getfield 49, 3) := by decide +kernel
theorem dX4_walk_63 : decode cX4_walk 63 = .ok (.istore 4, 2) := by decide +kernel
theorem dX4_walk_65 : decode cX4_walk 65 = .ok (.iload 4, 2) := by decide +kernel
theorem dX4_walk_67 : decode cX4_walk 67 = .ok (.iload_n 3, 1) := by decide +kernel
theorem dX4_walk_68 : decode cX4_walk 68 = .ok (.if_icmp .ge 33, 3) := by decide +kernel
theorem dX4_walk_71 : decode cX4_walk 71 = .ok (.iload 4, 2) := by decide +kernel
theorem dX4_walk_73 : decode cX4_walk 73 = .ok (.bipush 8, 2) := by decide +kernel
theorem dX4_walk_75 : decode cX4_walk 75 = .ok (.if_icmp .ge 26, 3) := by decide +kernel
theorem dX4_walk_78 : decode cX4_walk 78 = .ok (.aload_n 0, 1) := by decide +kernel
theorem dX4_walk_79 : decode cX4_walk 79 = .ok (.aload_n 1, 1) := by decide +kernel
theorem dX4_walk_80 : decode cX4_walk 80 = .ok (.iload 4, 2) := by decide +kernel
theorem dX4_walk_82 : decode cX4_walk 82 = .ok (.iconst 4, 1) := by decide +kernel
theorem dX4_walk_83 : decode cX4_walk 83 = .ok (.imul, 1) := by decide +kernel
theorem dX4_walk_84 : decode cX4_walk 84 = .ok (.invokevirtual 66, 3) := by decide +kernel
theorem dX4_walk_87 : decode cX4_walk 87 = .ok (.aload_n 0, 1) := by decide +kernel
theorem dX4_walk_88 : decode cX4_walk 88 = .ok (.iload 4, 2) := by decide +kernel
theorem dX4_walk_90 : decode cX4_walk 90 = .ok (.iconst 1, 1) := by decide +kernel
theorem dX4_walk_91 : decode cX4_walk 91 = .ok (.iadd, 1) := by decide +kernel
theorem dX4_walk_92 : decode cX4_walk 92 = .ok (.putfield 49, 3) := by decide +kernel
theorem dX4_walk_95 : decode cX4_walk 95 = .ok (.iinc 4 1, 3) := by decide +kernel
theorem dX4_walk_98 : decode cX4_walk 98 = .ok (.goto (-33), 3) := by decide +kernel
theorem dX4_walk_101 : decode cX4_walk 101 = .ok (.return_, 1) := by decide +kernel
theorem dX4_step_0 : decode cX4_step 0 = .ok (.aload_n 0, 1) := by decide +kernel
theorem dX4_step_1 : decode cX4_step 1 = .ok (.getfield 35, 3) := by decide +kernel
theorem dX4_step_4 : decode cX4_step 4 = .ok (.aload_n 1, 1) := by decide +kernel
theorem dX4_step_5 : decode cX4_step 5 = .ok (.aload_n 0, 1) := by decide +kernel
theorem dX4_step_6 : decode cX4_step 6 = .ok (.getfield 21, 3) := by decide +kernel
theorem dX4_step_9 : decode cX4_step 9 = .ok (.invokevirtual 70, 3) := by decide +kernel
theorem dX4_step_12 : decode cX4_step 12 = .ok (.aload_n 0, 1) := by decide +kernel
theorem dX4_step_13 : decode cX4_step 13 = .ok (.getfield 35, 3) := by decide +kernel
theorem dX4_step_16 : decode cX4_step 16 = .ok (.aload_n 1, 1) := by decide +kernel
theorem dX4_step_17 : decode cX4_step 17 = .ok (.getfield 76, 3) := by decide +kernel
theorem dX4_step_20 : decode cX4_step 20 = .ok (.aload_n 0, 1) := by decide +kernel
theorem dX4_step_21 : decode cX4_step 21 = .ok (.getfield 12, 3) := by decide +kernel
theorem dX4_step_24 : decode cX4_step 24 = .ok (.invokevirtual 79, 3) := by decide +kernel
theorem dX4_step_27 : decode cX4_step 27 = .ok (.iconst 0, 1) := by decide +kernel
theorem dX4_step_28 : decode cX4_step 28 = .ok (.istore_n 3, 1) := by decide +kernel
theorem dX4_step_29 : decode cX4_step 29 = .ok (.iconst 0, 1) := by decide +kernel
theorem dX4_step_30 : decode cX4_step 30 = .ok (.istore 4, 2) := by decide +kernel
theorem dX4_step_32 : decode cX4_step 32 = .ok (.iload 4, 2) := by decide +kernel
theorem dX4_step_34 : decode cX4_step 34 = .ok (.aload_n 1, 1) := by decide +kernel
theorem dX4_step_35 : decode cX4_step 35 = .ok (.getfield 83, 3) := by decide +kernel
theorem dX4_step_38 : decode cX4_step 38 = .ok (.if_icmp .ge 62, 3) := by decide +kernel
theorem dX4_step_41 : decode cX4_step 41 = .ok (.iload_n 3, 1) := by decide +kernel
theorem dX4_step_42 : decode cX4_step 42 = .ok (.ifCond .ne 26, 3) := by decide +kernel
theorem dX4_step_45 : decode cX4_step 45 = .ok (.aload_n 0, 1) := by decide +kernel
theorem dX4_step_46 : decode cX4_step 46 = .ok (.getfield 12, 3) := by decide +kernel
theorem dX4_step_49 : decode cX4_step 49 = .ok (.getfield 86, 3) := by decide +kernel
theorem dX4_step_52 : decode cX4_step 52 = .ok (.iload 4, 2) := by decide +kernel
theorem dX4_step_54 : decode cX4_step 54 = .ok (.iaload, 1) := by decide +kernel
theorem dX4_step_55 : decode cX4_step 55 = .ok (.aload_n 0, 1) := by decide +kernel
theorem dX4_step_56 : decode cX4_step 56 = .ok (.getfield 21, 3) := by decide +kernel
theorem dX4_step_59 : decode cX4_step 59 = .ok (.getfield 57, 3) := by decide +kernel
theorem dX4_step_62 : decode cX4_step 62 = .ok (.iload 4, 2) := by decide +kernel
theorem dX4_step_64 : decode cX4_step 64 = .ok (.iaload, 1) := by decide +kernel
theorem dX4_step_65 : decode cX4_step 65 = .ok (.if_icmp .eq 7, 3) := by decide +kernel
theorem dX4_step_68 : decode cX4_step 68 = .ok (.iconst 1, 1) := by decide +kernel
theorem dX4_step_69 : decode cX4_step 69 = .ok (.goto 4, 3) := by decide +kernel
theorem dX4_step_72 : decode cX4_step 72 = .ok (.iconst 0, 1) := by decide +kernel
theorem dX4_step_73 : decode cX4_step 73 = .ok (.istore_n 3, 1) := by decide +kernel
theorem dX4_step_74 : decode cX4_step 74 = .ok (.aload_n 0, 1) := by decide +kernel
theorem dX4_step_75 : decode cX4_step 75 = .ok (.getfield 21, 3) := by decide +kernel
theorem dX4_step_78 : decode cX4_step 78 = .ok (.getfield 87, 3) := by decide +kernel
theorem dX4_step_81 : decode cX4_step 81 = .ok (.iload 4, 2) := by decide +kernel
theorem dX4_step_83 : decode cX4_step 83 = .ok (.aload_n 0, 1) := by decide +kernel
theorem dX4_step_84 : decode cX4_step 84 = .ok (.getfield 12, 3) := by decide +kernel
theorem dX4_step_87 : decode cX4_step 87 = .ok (.getfield 86, 3) := by decide +kernel
theorem dX4_step_90 : decode cX4_step 90 = .ok (.iload 4, 2) := by decide +kernel
theorem dX4_step_92 : decode cX4_step 92 = .ok (.iaload, 1) := by decide +kernel
theorem dX4_step_93 : decode cX4_step 93 = .ok (.iastore, 1) := by decide +kernel
theorem dX4_step_94 : decode cX4_step 94 = .ok (.iinc 4 1, 3) := by decide +kernel
theorem dX4_step_97 : decode cX4_step 97 = .ok (.goto (-65), 3) := by decide +kernel
theorem dX4_step_100 : decode cX4_step 100 = .ok (.aload_n 0, 1) := by decide +kernel
theorem dX4_step_101 : decode cX4_step 101 = .ok (.getfield 21, 3) := by decide +kernel
theorem dX4_step_104 : decode cX4_step 104 = .ok (.aload_n 1, 1) := by decide +kernel
theorem dX4_step_105 : decode cX4_step 105 = .ok (.invokevirtual 90, 3) := by decide +kernel
theorem dX4_step_108 : decode cX4_step 108 = .ok (.aload_n 0, 1) := by decide +kernel
theorem dX4_step_109 : decode cX4_step 109 = .ok (.getfield 28, 3) := by decide +kernel
theorem dX4_step_112 : decode cX4_step 112 = .ok (.iload_n 2, 1) := by decide +kernel
theorem dX4_step_113 : decode cX4_step 113 = .ok (.iconst 4, 1) := by decide +kernel
theorem dX4_step_114 : decode cX4_step 114 = .ok (.iadd, 1) := by decide +kernel
theorem dX4_step_115 : decode cX4_step 115 = .ok (.iconst 0, 1) := by decide +kernel
theorem dX4_step_116 : decode cX4_step 116 = .ok (.iadd, 1) := by decide +kernel
theorem dX4_step_117 : decode cX4_step 117 = .ok (.aload_n 0, 1) := by decide +kernel
theorem dX4_step_118 : decode cX4_step 118 = .ok (.getfield 28, 3) := by decide +kernel
theorem dX4_step_121 : decode cX4_step 121 = .ok (.iload_n 2, 1) := by decide +kernel
theorem dX4_step_122 : decode cX4_step 122 = .ok (.iconst 0, 1) := by decide +kernel
theorem dX4_step_123 : decode cX4_step 123 = .ok (.iadd, 1) := by decide +kernel
theorem dX4_step_124 : decode cX4_step 124 = .ok (.iaload, 1) := by decide +kernel
theorem dX4_step_125 : decode cX4_step 125 = .ok (.aload_n 0, 1) := by decide +kernel
theorem dX4_step_126 : decode cX4_step 126 = .ok (.getfield 12, 3) := by decide +kernel
theorem dX4_step_129 : decode cX4_step 129 = .ok (.getfield 94, 3) := by decide +kernel
theorem dX4_step_132 : decode cX4_step 132 = .ok (.iadd, 1) := by decide +kernel
theorem dX4_step_133 : decode cX4_step 133 = .ok (.iastore, 1) := by decide +kernel
theorem dX4_step_134 : decode cX4_step 134 = .ok (.aload_n 0, 1) := by decide +kernel
theorem dX4_step_135 : decode cX4_step 135 = .ok (.getfield 28, 3) := by decide +kernel
theorem dX4_step_138 : decode cX4_step 138 = .ok (.iload_n 2, 1) := by decide +kernel
theorem dX4_step_139 : decode cX4_step 139 = .ok (.iconst 4, 1) := by decide +kernel
theorem dX4_step_140 : decode cX4_step 140 = .ok (.iadd, 1) := by decide +kernel
theorem dX4_step_141 : decode cX4_step 141 = .ok (.iconst 1, 1) := by decide +kernel
theorem dX4_step_142 : decode cX4_step 142 = .ok (.iadd, 1) := by decide +kernel
theorem dX4_step_143 : decode cX4_step 143 = .ok (.aload_n 0, 1) := by decide +kernel
theorem dX4_step_144 : decode cX4_step 144 = .ok (.getfield 28, 3) := by decide +kernel
theorem dX4_step_147 : decode cX4_step 147 = .ok (.iload_n 2, 1) := by decide +kernel
theorem dX4_step_148 : decode cX4_step 148 = .ok (.iconst 1, 1) := by decide +kernel
theorem dX4_step_149 : decode cX4_step 149 = .ok (.iadd, 1) := by decide +kernel
theorem dX4_step_150 : decode cX4_step 150 = .ok (.iaload, 1) := by decide +kernel
theorem dX4_step_151 : decode cX4_step 151 = .ok (.aload_n 1, 1) := by decide +kernel
theorem dX4_step_152 : decode cX4_step 152 = .ok (.aload_n 1, 1) := by decide +kernel
theorem dX4_step_153 : decode cX4_step 153 = .ok (.getfield 97, 3) := by decide +kernel
theorem dX4_step_156 : decode cX4_step 156 = .ok (.aload_n 0, 1) := by decide +kernel
theorem dX4_step_157 : decode cX4_step 157 = .ok (.getfield 21, 3) := by decide +kernel
theorem dX4_step_160 : decode cX4_step 160 = .ok (.getfield 57, 3) := by decide +kernel
theorem dX4_step_163 : decode cX4_step 163 = .ok (.invokevirtual 100, 3) := by decide +kernel
theorem dX4_step_166 : decode cX4_step 166 = .ok (.iadd, 1) := by decide +kernel
theorem dX4_step_167 : decode cX4_step 167 = .ok (.iastore, 1) := by decide +kernel
theorem dX4_step_168 : decode cX4_step 168 = .ok (.aload_n 0, 1) := by decide +kernel
theorem dX4_step_169 : decode cX4_step 169 = .ok (.getfield 28, 3) := by decide +kernel
theorem dX4_step_172 : decode cX4_step 172 = .ok (.iload_n 2, 1) := by decide +kernel
theorem dX4_step_173 : decode cX4_step 173 = .ok (.iconst 4, 1) := by decide +kernel
theorem dX4_step_174 : decode cX4_step 174 = .ok (.iadd, 1) := by decide +kernel
theorem dX4_step_175 : decode cX4_step 175 = .ok (.iconst 2, 1) := by decide +kernel
theorem dX4_step_176 : decode cX4_step 176 = .ok (.iadd, 1) := by decide +kernel
theorem dX4_step_177 : decode cX4_step 177 = .ok (.aload_n 1, 1) := by decide +kernel
theorem dX4_step_178 : decode cX4_step 178 = .ok (.aload_n 0, 1) := by decide +kernel
theorem dX4_step_179 : decode cX4_step 179 = .ok (.getfield 21, 3) := by decide +kernel
theorem dX4_step_182 : decode cX4_step 182 = .ok (.getfield 57, 3) := by decide +kernel
theorem dX4_step_185 : decode cX4_step 185 = .ok (.invokevirtual 60, 3) := by decide +kernel
theorem dX4_step_188 : decode cX4_step 188 = .ok (.iastore, 1) := by decide +kernel
theorem dX4_step_189 : decode cX4_step 189 = .ok (.aload_n 0, 1) := by decide +kernel
theorem dX4_step_190 : decode cX4_step 190 = .ok (.getfield 28, 3) := by decide +kernel
theorem dX4_step_193 : decode cX4_step 193 = .ok (.iload_n 2, 1) := by decide +kernel
theorem dX4_step_194 : decode cX4_step 194 = .ok (.iconst 4, 1) := by decide +kernel
theorem dX4_step_195 : decode cX4_step 195 = .ok (.iadd, 1) := by decide +kernel
theorem dX4_step_196 : decode cX4_step 196 = .ok (.iconst 3, 1) := by decide +kernel
theorem dX4_step_197 : decode cX4_step 197 = .ok (.iadd, 1) := by decide +kernel
theorem dX4_step_198 : decode cX4_step 198 = .ok (.aload_n 0, 1) := by decide +kernel
theorem dX4_step_199 : decode cX4_step 199 = .ok (.getfield 28, 3) := by decide +kernel
theorem dX4_step_202 : decode cX4_step 202 = .ok (.iload_n 2, 1) := by decide +kernel
theorem dX4_step_203 : decode cX4_step 203 = .ok (.iconst 3, 1) := by decide +kernel
theorem dX4_step_204 : decode cX4_step 204 = .ok (.iadd, 1) := by decide +kernel
theorem dX4_step_205 : decode cX4_step 205 = .ok (.iaload, 1) := by decide +kernel
theorem dX4_step_206 : decode cX4_step 206 = .ok (.iload_n 3, 1) := by decide +kernel
theorem dX4_step_207 : decode cX4_step 207 = .ok (.ifCond .eq 7, 3) := by decide +kernel
theorem dX4_step_210 : decode cX4_step 210 = .ok (.iconst 1, 1) := by decide +kernel
theorem dX4_step_211 : decode cX4_step 211 = .ok (.goto 4, 3) := by decide +kernel
theorem dX4_step_214 : decode cX4_step 214 = .ok (.iconst 0, 1) := by decide +kernel
theorem dX4_step_215 : decode cX4_step 215 = .ok (.iadd, 1) := by decide +kernel
theorem dX4_step_216 : decode cX4_step 216 = .ok (.iastore, 1) := by decide +kernel
theorem dX4_step_217 : decode cX4_step 217 = .ok (.return_, 1) := by decide +kernel
theorem dX4_nextProfit_0 : decode cX4_nextProfit 0 = .ok (.aload_n 0, 1) := by decide +kernel
theorem dX4_nextProfit_1 : decode cX4_nextProfit 1 = .ok (.getfield 43, 3) := by decide +kernel
theorem dX4_nextProfit_4 : decode cX4_nextProfit 4 = .ok (.ifCond .ne 62, 3) := by decide +kernel
theorem dX4_nextProfit_7 : decode cX4_nextProfit 7 = .ok (.aload_n 0, 1) := by decide +kernel
theorem dX4_nextProfit_8 : decode cX4_nextProfit 8 = .ok (.getfield 25, 3) := by decide +kernel
theorem dX4_nextProfit_11 : decode cX4_nextProfit 11 = .ok (.aload_n 2, 1) := by decide +kernel
theorem dX4_nextProfit_12 : decode cX4_nextProfit 12 = .ok (.invokevirtual 53, 3) := by decide +kernel
theorem dX4_nextProfit_15 : decode cX4_nextProfit 15 = .ok (.aload_n 0, 1) := by decide +kernel
theorem dX4_nextProfit_16 : decode cX4_nextProfit 16 = .ok (.getfield 25, 3) := by decide +kernel
theorem dX4_nextProfit_19 : decode cX4_nextProfit 19 = .ok (.aload_n 1, 1) := by decide +kernel
theorem dX4_nextProfit_20 : decode cX4_nextProfit 20 = .ok (.invokevirtual 90, 3) := by decide +kernel
theorem dX4_nextProfit_23 : decode cX4_nextProfit 23 = .ok (.aload_n 0, 1) := by decide +kernel
theorem dX4_nextProfit_24 : decode cX4_nextProfit 24 = .ok (.getfield 35, 3) := by decide +kernel
theorem dX4_nextProfit_27 : decode cX4_nextProfit 27 = .ok (.aload_n 1, 1) := by decide +kernel
theorem dX4_nextProfit_28 : decode cX4_nextProfit 28 = .ok (.aload_n 0, 1) := by decide +kernel
theorem dX4_nextProfit_29 : decode cX4_nextProfit 29 = .ok (.getfield 25, 3) := by decide +kernel
theorem dX4_nextProfit_32 : decode cX4_nextProfit 32 = .ok (.invokevirtual 70, 3) := by decide +kernel
theorem dX4_nextProfit_35 : decode cX4_nextProfit 35 = .ok (.aload_n 0, 1) := by decide +kernel
theorem dX4_nextProfit_36 : decode cX4_nextProfit 36 = .ok (.getfield 35, 3) := by decide +kernel
theorem dX4_nextProfit_39 : decode cX4_nextProfit 39 = .ok (.aload_n 1, 1) := by decide +kernel
theorem dX4_nextProfit_40 : decode cX4_nextProfit 40 = .ok (.getfield 76, 3) := by decide +kernel
theorem dX4_nextProfit_43 : decode cX4_nextProfit 43 = .ok (.aload_n 0, 1) := by decide +kernel
theorem dX4_nextProfit_44 : decode cX4_nextProfit 44 = .ok (.getfield 12, 3) := by decide +kernel
theorem dX4_nextProfit_47 : decode cX4_nextProfit 47 = .ok (.invokevirtual 79, 3) := by decide +kernel
theorem dX4_nextProfit_50 : decode cX4_nextProfit 50 = .ok (.aload_n 0, 1) := by decide +kernel
theorem dX4_nextProfit_51 : decode cX4_nextProfit 51 = .ok (.aload_n 0, 1) := by decide +kernel
theorem dX4_nextProfit_52 : decode cX4_nextProfit 52 = .ok (.getfield 12, 3) := by decide +kernel
theorem dX4_nextProfit_55 : decode cX4_nextProfit 55 = .ok (.getfield 94, 3) := by decide +kernel
theorem dX4_nextProfit_58 : decode cX4_nextProfit 58 = .ok (.putfield 104, 3) := by decide +kernel
theorem dX4_nextProfit_61 : decode cX4_nextProfit 61 = .ok (.aload_n 0, 1) := by decide +kernel
theorem dX4_nextProfit_62 : decode cX4_nextProfit 62 = .ok (.iconst 1, 1) := by decide +kernel
theorem dX4_nextProfit_63 : decode cX4_nextProfit 63 = .ok (.putfield 43, 3) := by decide +kernel
theorem dX4_nextProfit_66 : decode cX4_nextProfit 66 = .ok (.aload_n 0, 1) := by decide +kernel
theorem dX4_nextProfit_67 : decode cX4_nextProfit 67 = .ok (.getfield 104, 3) := by decide +kernel
theorem dX4_nextProfit_70 : decode cX4_nextProfit 70 = .ok (.ireturn, 1) := by decide +kernel
theorem dX4_play_0 : decode cX4_play 0 = .ok (.aload_n 0, 1) := by decide +kernel
theorem dX4_play_1 : decode cX4_play 1 = .ok (.getfield 39, 3) := by decide +kernel
theorem dX4_play_4 : decode cX4_play 4 = .ok (.ifCond .ne 36, 3) := by decide +kernel
theorem dX4_play_7 : decode cX4_play 7 = .ok (.aload_n 0, 1) := by decide +kernel
theorem dX4_play_8 : decode cX4_play 8 = .ok (.iconst 0, 1) := by decide +kernel
theorem dX4_play_9 : decode cX4_play 9 = .ok (.putfield 107, 3) := by decide +kernel
theorem dX4_play_12 : decode cX4_play 12 = .ok (.iconst 0, 1) := by decide +kernel
theorem dX4_play_13 : decode cX4_play 13 = .ok (.istore_n 3, 1) := by decide +kernel
theorem dX4_play_14 : decode cX4_play 14 = .ok (.iload_n 3, 1) := by decide +kernel
theorem dX4_play_15 : decode cX4_play 15 = .ok (.aload_n 1, 1) := by decide +kernel
theorem dX4_play_16 : decode cX4_play 16 = .ok (.getfield 83, 3) := by decide +kernel
theorem dX4_play_19 : decode cX4_play 19 = .ok (.if_icmp .ge 16, 3) := by decide +kernel
theorem dX4_play_22 : decode cX4_play 22 = .ok (.aload_n 0, 1) := by decide +kernel
theorem dX4_play_23 : decode cX4_play 23 = .ok (.aload_n 1, 1) := by decide +kernel
theorem dX4_play_24 : decode cX4_play 24 = .ok (.aload_n 2, 1) := by decide +kernel
theorem dX4_play_25 : decode cX4_play 25 = .ok (.iload_n 3, 1) := by decide +kernel
theorem dX4_play_26 : decode cX4_play 26 = .ok (.invokevirtual 110, 3) := by decide +kernel
theorem dX4_play_29 : decode cX4_play 29 = .ok (.iinc 3 1, 3) := by decide +kernel
theorem dX4_play_32 : decode cX4_play 32 = .ok (.goto (-18), 3) := by decide +kernel
theorem dX4_play_35 : decode cX4_play 35 = .ok (.aload_n 0, 1) := by decide +kernel
theorem dX4_play_36 : decode cX4_play 36 = .ok (.iconst 1, 1) := by decide +kernel
theorem dX4_play_37 : decode cX4_play 37 = .ok (.putfield 39, 3) := by decide +kernel
theorem dX4_play_40 : decode cX4_play 40 = .ok (.aload_n 0, 1) := by decide +kernel
theorem dX4_play_41 : decode cX4_play 41 = .ok (.getfield 107, 3) := by decide +kernel
theorem dX4_play_44 : decode cX4_play 44 = .ok (.ireturn, 1) := by decide +kernel
theorem dX4_playService_0 : decode cX4_playService 0 = .ok (.aload_n 2, 1) := by decide +kernel
theorem dX4_playService_1 : decode cX4_playService 1 = .ok (.aload_n 1, 1) := by decide +kernel
theorem dX4_playService_2 : decode cX4_playService 2 = .ok (.invokevirtual 114, 3) := by decide +kernel
theorem dX4_playService_5 : decode cX4_playService 5 = .ok (.istore 4, 2) := by decide +kernel
theorem dX4_playService_7 : decode cX4_playService 7 = .ok (.aload_n 0, 1) := by decide +kernel
theorem dX4_playService_8 : decode cX4_playService 8 = .ok (.aload_n 1, 1) := by decide +kernel
theorem dX4_playService_9 : decode cX4_playService 9 = .ok (.invokevirtual 118, 3) := by decide +kernel
theorem dX4_playService_12 : decode cX4_playService 12 = .ok (.istore 5, 2) := by decide +kernel
theorem dX4_playService_14 : decode cX4_playService 14 = .ok (.iconst 0, 1) := by decide +kernel
theorem dX4_playService_15 : decode cX4_playService 15 = .ok (.istore 6, 2) := by decide +kernel
theorem dX4_playService_17 : decode cX4_playService 17 = .ok (.iload 6, 2) := by decide +kernel
theorem dX4_playService_19 : decode cX4_playService 19 = .ok (.bipush 20, 2) := by decide +kernel
theorem dX4_playService_21 : decode cX4_playService 21 = .ok (.if_icmp .gt 109, 3) := by decide +kernel
theorem dX4_playService_24 : decode cX4_playService 24 = .ok (.aload_n 2, 1) := by decide +kernel
theorem dX4_playService_25 : decode cX4_playService 25 = .ok (.aload_n 1, 1) := by decide +kernel
theorem dX4_playService_26 : decode cX4_playService 26 = .ok (.iload_n 3, 1) := by decide +kernel
theorem dX4_playService_27 : decode cX4_playService 27 = .ok (.iload 6, 2) := by decide +kernel
theorem dX4_playService_29 : decode cX4_playService 29 = .ok (.invokevirtual 121, 3) := by decide +kernel
theorem dX4_playService_32 : decode cX4_playService 32 = .ok (.iload 4, 2) := by decide +kernel
theorem dX4_playService_34 : decode cX4_playService 34 = .ok (.if_icmp .gt 96, 3) := by decide +kernel
theorem dX4_playService_37 : decode cX4_playService 37 = .ok (.aload_n 0, 1) := by decide +kernel
theorem dX4_playService_38 : decode cX4_playService 38 = .ok (.getfield 25, 3) := by decide +kernel
theorem dX4_playService_41 : decode cX4_playService 41 = .ok (.aload_n 2, 1) := by decide +kernel
theorem dX4_playService_42 : decode cX4_playService 42 = .ok (.invokevirtual 53, 3) := by decide +kernel
theorem dX4_playService_45 : decode cX4_playService 45 = .ok (.aload_n 0, 1) := by decide +kernel
theorem dX4_playService_46 : decode cX4_playService 46 = .ok (.getfield 25, 3) := by decide +kernel
theorem dX4_playService_49 : decode cX4_playService 49 = .ok (.getfield 87, 3) := by decide +kernel
theorem dX4_playService_52 : decode cX4_playService 52 = .ok (.iload_n 3, 1) := by decide +kernel
theorem dX4_playService_53 : decode cX4_playService 53 = .ok (.iload 6, 2) := by decide +kernel
theorem dX4_playService_55 : decode cX4_playService 55 = .ok (.iastore, 1) := by decide +kernel
theorem dX4_playService_56 : decode cX4_playService 56 = .ok (.aload_n 1, 1) := by decide +kernel
theorem dX4_playService_57 : decode cX4_playService 57 = .ok (.aload_n 1, 1) := by decide +kernel
theorem dX4_playService_58 : decode cX4_playService 58 = .ok (.getfield 76, 3) := by decide +kernel
theorem dX4_playService_61 : decode cX4_playService 61 = .ok (.aload_n 0, 1) := by decide +kernel
theorem dX4_playService_62 : decode cX4_playService 62 = .ok (.getfield 25, 3) := by decide +kernel
theorem dX4_playService_65 : decode cX4_playService 65 = .ok (.getfield 87, 3) := by decide +kernel
theorem dX4_playService_68 : decode cX4_playService 68 = .ok (.invokevirtual 100, 3) := by decide +kernel
theorem dX4_playService_71 : decode cX4_playService 71 = .ok (.istore 7, 2) := by decide +kernel
theorem dX4_playService_73 : decode cX4_playService 73 = .ok (.aload_n 0, 1) := by decide +kernel
theorem dX4_playService_74 : decode cX4_playService 74 = .ok (.getfield 107, 3) := by decide +kernel
theorem dX4_playService_77 : decode cX4_playService 77 = .ok (.ifCond .eq 17, 3) := by decide +kernel
theorem dX4_playService_80 : decode cX4_playService 80 = .ok (.iload 7, 2) := by decide +kernel
theorem dX4_playService_82 : decode cX4_playService 82 = .ok (.iload 5, 2) := by decide +kernel
theorem dX4_playService_84 : decode cX4_playService 84 = .ok (.iadd, 1) := by decide +kernel
theorem dX4_playService_85 : decode cX4_playService 85 = .ok (.aload_n 0, 1) := by decide +kernel
theorem dX4_playService_86 : decode cX4_playService 86 = .ok (.getfield 32, 3) := by decide +kernel
theorem dX4_playService_89 : decode cX4_playService 89 = .ok (.iconst 0, 1) := by decide +kernel
theorem dX4_playService_90 : decode cX4_playService 90 = .ok (.iaload, 1) := by decide +kernel
theorem dX4_playService_91 : decode cX4_playService 91 = .ok (.if_icmp .le 33, 3) := by decide +kernel
theorem dX4_playService_94 : decode cX4_playService 94 = .ok (.aload_n 0, 1) := by decide +kernel
theorem dX4_playService_95 : decode cX4_playService 95 = .ok (.getfield 25, 3) := by decide +kernel
theorem dX4_playService_98 : decode cX4_playService 98 = .ok (.aload_n 1, 1) := by decide +kernel
theorem dX4_playService_99 : decode cX4_playService 99 = .ok (.invokevirtual 90, 3) := by decide +kernel
theorem dX4_playService_102 : decode cX4_playService 102 = .ok (.aload_n 0, 1) := by decide +kernel
theorem dX4_playService_103 : decode cX4_playService 103 = .ok (.getfield 35, 3) := by decide +kernel
theorem dX4_playService_106 : decode cX4_playService 106 = .ok (.aload_n 1, 1) := by decide +kernel
theorem dX4_playService_107 : decode cX4_playService 107 = .ok (.aload_n 0, 1) := by decide +kernel
theorem dX4_playService_108 : decode cX4_playService 108 = .ok (.getfield 25, 3) := by decide +kernel
theorem dX4_playService_111 : decode cX4_playService 111 = .ok (.invokevirtual 70, 3) := by decide +kernel
theorem dX4_playService_114 : decode cX4_playService 114 = .ok (.aload_n 0, 1) := by decide +kernel
theorem dX4_playService_115 : decode cX4_playService 115 = .ok (.aload_n 1, 1) := by decide +kernel
theorem dX4_playService_116 : decode cX4_playService 116 = .ok (.iload_n 3, 1) := by decide +kernel
theorem dX4_playService_117 : decode cX4_playService 117 = .ok (.iload 6, 2) := by decide +kernel
theorem dX4_playService_119 : decode cX4_playService 119 = .ok (.iload 7, 2) := by decide +kernel
theorem dX4_playService_121 : decode cX4_playService 121 = .ok (.invokevirtual 125, 3) := by decide +kernel
theorem dX4_playService_124 : decode cX4_playService 124 = .ok (.iinc 6 1, 3) := by decide +kernel
theorem dX4_playService_127 : decode cX4_playService 127 = .ok (.goto (-110), 3) := by decide +kernel
theorem dX4_playService_130 : decode cX4_playService 130 = .ok (.return_, 1) := by decide +kernel
theorem dX4_playNext_0 : decode cX4_playNext 0 = .ok (.aload_n 0, 1) := by decide +kernel
theorem dX4_playNext_1 : decode cX4_playNext 1 = .ok (.getfield 35, 3) := by decide +kernel
theorem dX4_playNext_4 : decode cX4_playNext 4 = .ok (.aload_n 1, 1) := by decide +kernel
theorem dX4_playNext_5 : decode cX4_playNext 5 = .ok (.getfield 76, 3) := by decide +kernel
theorem dX4_playNext_8 : decode cX4_playNext 8 = .ok (.invokevirtual 129, 3) := by decide +kernel
theorem dX4_playNext_11 : decode cX4_playNext 11 = .ok (.ifCond .eq 58, 3) := by decide +kernel
theorem dX4_playNext_14 : decode cX4_playNext 14 = .ok (.aload_n 0, 1) := by decide +kernel
theorem dX4_playNext_15 : decode cX4_playNext 15 = .ok (.getfield 107, 3) := by decide +kernel
theorem dX4_playNext_18 : decode cX4_playNext 18 = .ok (.ifCond .eq 22, 3) := by decide +kernel
theorem dX4_playNext_21 : decode cX4_playNext 21 = .ok (.iload 4, 2) := by decide +kernel
theorem dX4_playNext_23 : decode cX4_playNext 23 = .ok (.aload_n 0, 1) := by decide +kernel
theorem dX4_playNext_24 : decode cX4_playNext 24 = .ok (.getfield 35, 3) := by decide +kernel
theorem dX4_playNext_27 : decode cX4_playNext 27 = .ok (.invokevirtual 133, 3) := by decide +kernel
theorem dX4_playNext_30 : decode cX4_playNext 30 = .ok (.iadd, 1) := by decide +kernel
theorem dX4_playNext_31 : decode cX4_playNext 31 = .ok (.aload_n 0, 1) := by decide +kernel
theorem dX4_playNext_32 : decode cX4_playNext 32 = .ok (.getfield 32, 3) := by decide +kernel
theorem dX4_playNext_35 : decode cX4_playNext 35 = .ok (.iconst 0, 1) := by decide +kernel
theorem dX4_playNext_36 : decode cX4_playNext 36 = .ok (.iaload, 1) := by decide +kernel
theorem dX4_playNext_37 : decode cX4_playNext 37 = .ok (.if_icmp .le 32, 3) := by decide +kernel
theorem dX4_playNext_40 : decode cX4_playNext 40 = .ok (.aload_n 0, 1) := by decide +kernel
theorem dX4_playNext_41 : decode cX4_playNext 41 = .ok (.getfield 35, 3) := by decide +kernel
theorem dX4_playNext_44 : decode cX4_playNext 44 = .ok (.aload_n 0, 1) := by decide +kernel
theorem dX4_playNext_45 : decode cX4_playNext 45 = .ok (.getfield 12, 3) := by decide +kernel
theorem dX4_playNext_48 : decode cX4_playNext 48 = .ok (.invokevirtual 137, 3) := by decide +kernel
theorem dX4_playNext_51 : decode cX4_playNext 51 = .ok (.aload_n 0, 1) := by decide +kernel
theorem dX4_playNext_52 : decode cX4_playNext 52 = .ok (.iload 4, 2) := by decide +kernel
theorem dX4_playNext_54 : decode cX4_playNext 54 = .ok (.aload_n 0, 1) := by decide +kernel
theorem dX4_playNext_55 : decode cX4_playNext 55 = .ok (.getfield 12, 3) := by decide +kernel
theorem dX4_playNext_58 : decode cX4_playNext 58 = .ok (.getfield 94, 3) := by decide +kernel
theorem dX4_playNext_61 : decode cX4_playNext 61 = .ok (.iadd, 1) := by decide +kernel
theorem dX4_playNext_62 : decode cX4_playNext 62 = .ok (.iload_n 2, 1) := by decide +kernel
theorem dX4_playNext_63 : decode cX4_playNext 63 = .ok (.iload_n 3, 1) := by decide +kernel
theorem dX4_playNext_64 : decode cX4_playNext 64 = .ok (.iload 4, 2) := by decide +kernel
theorem dX4_playNext_66 : decode cX4_playNext 66 = .ok (.invokevirtual 141, 3) := by decide +kernel
theorem dX4_playNext_69 : decode cX4_playNext 69 = .ok (.return_, 1) := by decide +kernel
theorem dX4_noteGame_0 : decode cX4_noteGame 0 = .ok (.aload_n 0, 1) := by decide +kernel
theorem dX4_noteGame_1 : decode cX4_noteGame 1 = .ok (.getfield 107, 3) := by decide +kernel
theorem dX4_noteGame_4 : decode cX4_noteGame 4 = .ok (.ifCond .eq 13, 3) := by decide +kernel
theorem dX4_noteGame_7 : decode cX4_noteGame 7 = .ok (.iload_n 1, 1) := by decide +kernel
theorem dX4_noteGame_8 : decode cX4_noteGame 8 = .ok (.aload_n 0, 1) := by decide +kernel
theorem dX4_noteGame_9 : decode cX4_noteGame 9 = .ok (.getfield 32, 3) := by decide +kernel
theorem dX4_noteGame_12 : decode cX4_noteGame 12 = .ok (.iconst 0, 1) := by decide +kernel
theorem dX4_noteGame_13 : decode cX4_noteGame 13 = .ok (.iaload, 1) := by decide +kernel
theorem dX4_noteGame_14 : decode cX4_noteGame 14 = .ok (.if_icmp .le 37, 3) := by decide +kernel
theorem dX4_noteGame_17 : decode cX4_noteGame 17 = .ok (.aload_n 0, 1) := by decide +kernel
theorem dX4_noteGame_18 : decode cX4_noteGame 18 = .ok (.iconst 1, 1) := by decide +kernel
theorem dX4_noteGame_19 : decode cX4_noteGame 19 = .ok (.putfield 107, 3) := by decide +kernel
theorem dX4_noteGame_22 : decode cX4_noteGame 22 = .ok (.aload_n 0, 1) := by decide +kernel
theorem dX4_noteGame_23 : decode cX4_noteGame 23 = .ok (.getfield 32, 3) := by decide +kernel
theorem dX4_noteGame_26 : decode cX4_noteGame 26 = .ok (.iconst 0, 1) := by decide +kernel
theorem dX4_noteGame_27 : decode cX4_noteGame 27 = .ok (.iload_n 1, 1) := by decide +kernel
theorem dX4_noteGame_28 : decode cX4_noteGame 28 = .ok (.iastore, 1) := by decide +kernel
theorem dX4_noteGame_29 : decode cX4_noteGame 29 = .ok (.aload_n 0, 1) := by decide +kernel
theorem dX4_noteGame_30 : decode cX4_noteGame 30 = .ok (.getfield 32, 3) := by decide +kernel
theorem dX4_noteGame_33 : decode cX4_noteGame 33 = .ok (.iconst 1, 1) := by decide +kernel
theorem dX4_noteGame_34 : decode cX4_noteGame 34 = .ok (.iload_n 2, 1) := by decide +kernel
theorem dX4_noteGame_35 : decode cX4_noteGame 35 = .ok (.iastore, 1) := by decide +kernel
theorem dX4_noteGame_36 : decode cX4_noteGame 36 = .ok (.aload_n 0, 1) := by decide +kernel
theorem dX4_noteGame_37 : decode cX4_noteGame 37 = .ok (.getfield 32, 3) := by decide +kernel
theorem dX4_noteGame_40 : decode cX4_noteGame 40 = .ok (.iconst 2, 1) := by decide +kernel
theorem dX4_noteGame_41 : decode cX4_noteGame 41 = .ok (.iload_n 3, 1) := by decide +kernel
theorem dX4_noteGame_42 : decode cX4_noteGame 42 = .ok (.iastore, 1) := by decide +kernel
theorem dX4_noteGame_43 : decode cX4_noteGame 43 = .ok (.aload_n 0, 1) := by decide +kernel
theorem dX4_noteGame_44 : decode cX4_noteGame 44 = .ok (.getfield 32, 3) := by decide +kernel
theorem dX4_noteGame_47 : decode cX4_noteGame 47 = .ok (.iconst 3, 1) := by decide +kernel
theorem dX4_noteGame_48 : decode cX4_noteGame 48 = .ok (.iload 4, 2) := by decide +kernel
theorem dX4_noteGame_50 : decode cX4_noteGame 50 = .ok (.iastore, 1) := by decide +kernel
theorem dX4_noteGame_51 : decode cX4_noteGame 51 = .ok (.return_, 1) := by decide +kernel
theorem dX4_freeProfit_0 : decode cX4_freeProfit 0 = .ok (.iconst 0, 1) := by decide +kernel
theorem dX4_freeProfit_1 : decode cX4_freeProfit 1 = .ok (.istore_n 2, 1) := by decide +kernel
theorem dX4_freeProfit_2 : decode cX4_freeProfit 2 = .ok (.iconst 0, 1) := by decide +kernel
theorem dX4_freeProfit_3 : decode cX4_freeProfit 3 = .ok (.istore_n 3, 1) := by decide +kernel
theorem dX4_freeProfit_4 : decode cX4_freeProfit 4 = .ok (.iload_n 3, 1) := by decide +kernel
theorem dX4_freeProfit_5 : decode cX4_freeProfit 5 = .ok (.aload_n 1, 1) := by decide +kernel
theorem dX4_freeProfit_6 : decode cX4_freeProfit 6 = .ok (.getfield 83, 3) := by decide +kernel
theorem dX4_freeProfit_9 : decode cX4_freeProfit 9 = .ok (.if_icmp .ge 27, 3) := by decide +kernel
theorem dX4_freeProfit_12 : decode cX4_freeProfit 12 = .ok (.iload_n 2, 1) := by decide +kernel
theorem dX4_freeProfit_13 : decode cX4_freeProfit 13 = .ok (.aload_n 1, 1) := by decide +kernel
theorem dX4_freeProfit_14 : decode cX4_freeProfit 14 = .ok (.getfield 76, 3) := by decide +kernel
theorem dX4_freeProfit_17 : decode cX4_freeProfit 17 = .ok (.iload_n 3, 1) := by decide +kernel
theorem dX4_freeProfit_18 : decode cX4_freeProfit 18 = .ok (.bipush 21, 2) := by decide +kernel
theorem dX4_freeProfit_20 : decode cX4_freeProfit 20 = .ok (.imul, 1) := by decide +kernel
theorem dX4_freeProfit_21 : decode cX4_freeProfit 21 = .ok (.aload_n 1, 1) := by decide +kernel
theorem dX4_freeProfit_22 : decode cX4_freeProfit 22 = .ok (.iload_n 3, 1) := by decide +kernel
theorem dX4_freeProfit_23 : decode cX4_freeProfit 23 = .ok (.invokevirtual 145, 3) := by decide +kernel
theorem dX4_freeProfit_26 : decode cX4_freeProfit 26 = .ok (.iadd, 1) := by decide +kernel
theorem dX4_freeProfit_27 : decode cX4_freeProfit 27 = .ok (.iaload, 1) := by decide +kernel
theorem dX4_freeProfit_28 : decode cX4_freeProfit 28 = .ok (.iadd, 1) := by decide +kernel
theorem dX4_freeProfit_29 : decode cX4_freeProfit 29 = .ok (.istore_n 2, 1) := by decide +kernel
theorem dX4_freeProfit_30 : decode cX4_freeProfit 30 = .ok (.iinc 3 1, 3) := by decide +kernel
theorem dX4_freeProfit_33 : decode cX4_freeProfit 33 = .ok (.goto (-29), 3) := by decide +kernel
theorem dX4_freeProfit_36 : decode cX4_freeProfit 36 = .ok (.iload_n 2, 1) := by decide +kernel
theorem dX4_freeProfit_37 : decode cX4_freeProfit 37 = .ok (.ireturn, 1) := by decide +kernel
theorem dX5_init_0 : decode cX5_init 0 = .ok (.aload_n 0, 1) := by decide +kernel
theorem dX5_init_1 : decode cX5_init 1 = .ok (.invokespecial 1, 3) := by decide +kernel
theorem dX5_init_4 : decode cX5_init 4 = .ok (.aload_n 0, 1) := by decide +kernel
theorem dX5_init_5 : decode cX5_init 5 = .ok (.bipush 10, 2) := by decide +kernel
theorem dX5_init_7 : decode cX5_init 7 = .ok (.anewarray 9, 3) := by decide +kernel
theorem dX5_init_10 : decode cX5_init 10 = .ok (.putfield 11, 3) := by decide +kernel
theorem dX5_init_13 : decode cX5_init 13 = .ok (.iconst 0, 1) := by decide +kernel
theorem dX5_init_14 : decode cX5_init 14 = .ok (.istore_n 1, 1) := by decide +kernel
theorem dX5_init_15 : decode cX5_init 15 = .ok (.iload_n 1, 1) := by decide +kernel
theorem dX5_init_16 : decode cX5_init 16 = .ok (.bipush 10, 2) := by decide +kernel
theorem dX5_init_18 : decode cX5_init 18 = .ok (.if_icmp .ge 22, 3) := by decide +kernel
theorem dX5_init_21 : decode cX5_init 21 = .ok (.aload_n 0, 1) := by decide +kernel
theorem dX5_init_22 : decode cX5_init 22 = .ok (.getfield 11, 3) := by decide +kernel
theorem dX5_init_25 : decode cX5_init 25 = .ok (.iload_n 1, 1) := by decide +kernel
theorem dX5_init_26 : decode cX5_init 26 = .ok (.new 9, 3) := by decide +kernel
theorem dX5_init_29 : decode cX5_init 29 = .ok (.dup, 1) := by decide +kernel
theorem dX5_init_30 : decode cX5_init 30 = .ok (.invokespecial 15, 3) := by decide +kernel
theorem dX5_init_33 : decode cX5_init 33 = .ok (.aastore, 1) := by decide +kernel
theorem dX5_init_34 : decode cX5_init 34 = .ok (.iinc 1 1, 3) := by decide +kernel
theorem dX5_init_37 : decode cX5_init 37 = .ok (.goto (-22), 3) := by decide +kernel
theorem dX5_init_40 : decode cX5_init 40 = .ok (.return_, 1) := by decide +kernel
theorem dX5_clear_0 : decode cX5_clear 0 = .ok (.aload_n 0, 1) := by decide +kernel
theorem dX5_clear_1 : decode cX5_clear 1 = .ok (.iconst 0, 1) := by decide +kernel
theorem dX5_clear_2 : decode cX5_clear 2 = .ok (.putfield 16, 3) := by decide +kernel
theorem dX5_clear_5 : decode cX5_clear 5 = .ok (.return_, 1) := by decide +kernel
theorem dX5_push_0 : decode cX5_push 0 = .ok (.aload_n 0, 1) := by decide +kernel
theorem dX5_push_1 : decode cX5_push 1 = .ok (.getfield 11, 3) := by decide +kernel
theorem dX5_push_4 : decode cX5_push 4 = .ok (.aload_n 0, 1) := by decide +kernel
theorem dX5_push_5 : decode cX5_push 5 = .ok (.getfield 20, 3) := by decide +kernel
theorem dX5_push_8 : decode cX5_push 8 = .ok (.aaload, 1) := by decide +kernel
theorem dX5_push_9 : decode cX5_push 9 = .ok (.aload_n 1, 1) := by decide +kernel
theorem dX5_push_10 : decode cX5_push 10 = .ok (.invokevirtual 23, 3) := by decide +kernel
theorem dX5_push_13 : decode cX5_push 13 = .ok (.aload_n 0, 1) := by decide +kernel
theorem dX5_push_14 : decode cX5_push 14 = .ok (.aload_n 0, 1) := by decide +kernel
theorem dX5_push_15 : decode cX5_push 15 = .ok (.getfield 20, 3) := by decide +kernel
theorem dX5_push_18 : decode cX5_push 18 = .ok (.iconst 1, 1) := by decide +kernel
theorem dX5_push_19 : decode cX5_push 19 = .ok (.iadd, 1) := by decide +kernel
theorem dX5_push_20 : decode cX5_push 20 = .ok (.bipush 10, 2) := by decide +kernel
theorem dX5_push_22 : decode cX5_push 22 = .ok (.irem, 1) := by decide +kernel
theorem dX5_push_23 : decode cX5_push 23 = .ok (.putfield 20, 3) := by decide +kernel
theorem dX5_push_26 : decode cX5_push 26 = .ok (.aload_n 0, 1) := by decide +kernel
theorem dX5_push_27 : decode cX5_push 27 = .ok (.aload_n 0, 1) := by decide +kernel
theorem dX5_push_28 : decode cX5_push 28 = .ok (.getfield 16, 3) := by decide +kernel
theorem dX5_push_31 : decode cX5_push 31 = .ok (.iconst 1, 1) := by decide +kernel
theorem dX5_push_32 : decode cX5_push 32 = .ok (.iadd, 1) := by decide +kernel
theorem dX5_push_33 : decode cX5_push 33 = .ok (.bipush 10, 2) := by decide +kernel
theorem dX5_push_35 : decode cX5_push 35 = .ok (.invokestatic 27, 3) := by decide +kernel
theorem dX5_push_38 : decode cX5_push 38 = .ok (.putfield 16, 3) := by decide +kernel
theorem dX5_push_41 : decode cX5_push 41 = .ok (.return_, 1) := by decide +kernel
theorem dX5_pop_0 : decode cX5_pop 0 = .ok (.aload_n 0, 1) := by decide +kernel
theorem dX5_pop_1 : decode cX5_pop 1 = .ok (.aload_n 0, 1) := by decide +kernel
theorem dX5_pop_2 : decode cX5_pop 2 = .ok (.getfield 20, 3) := by decide +kernel
theorem dX5_pop_5 : decode cX5_pop 5 = .ok (.bipush 10, 2) := by decide +kernel
theorem dX5_pop_7 : decode cX5_pop 7 = .ok (.iadd, 1) := by decide +kernel
theorem dX5_pop_8 : decode cX5_pop 8 = .ok (.iconst 1, 1) := by decide +kernel
theorem dX5_pop_9 : decode cX5_pop 9 = .ok (.isub, 1) := by decide +kernel
theorem dX5_pop_10 : decode cX5_pop 10 = .ok (.bipush 10, 2) := by decide +kernel
theorem dX5_pop_12 : decode cX5_pop 12 = .ok (.irem, 1) := by decide +kernel
theorem dX5_pop_13 : decode cX5_pop 13 = .ok (.putfield 20, 3) := by decide +kernel
theorem dX5_pop_16 : decode cX5_pop 16 = .ok (.aload_n 1, 1) := by decide +kernel
theorem dX5_pop_17 : decode cX5_pop 17 = .ok (.aload_n 0, 1) := by decide +kernel
theorem dX5_pop_18 : decode cX5_pop 18 = .ok (.getfield 11, 3) := by decide +kernel
theorem dX5_pop_21 : decode cX5_pop 21 = .ok (.aload_n 0, 1) := by decide +kernel
theorem dX5_pop_22 : decode cX5_pop 22 = .ok (.getfield 20, 3) := by decide +kernel
theorem dX5_pop_25 : decode cX5_pop 25 = .ok (.aaload, 1) := by decide +kernel
theorem dX5_pop_26 : decode cX5_pop 26 = .ok (.invokevirtual 23, 3) := by decide +kernel
theorem dX5_pop_29 : decode cX5_pop 29 = .ok (.aload_n 0, 1) := by decide +kernel
theorem dX5_pop_30 : decode cX5_pop 30 = .ok (.dup, 1) := by decide +kernel
theorem dX5_pop_31 : decode cX5_pop 31 = .ok (.getfield 16, 3) := by decide +kernel
theorem dX5_pop_34 : decode cX5_pop 34 = .ok (.iconst 1, 1) := by decide +kernel
theorem dX5_pop_35 : decode cX5_pop 35 = .ok (.isub, 1) := by decide +kernel
theorem dX5_pop_36 : decode cX5_pop 36 = .ok (.putfield 16, 3) := by decide +kernel
theorem dX5_pop_39 : decode cX5_pop 39 = .ok (.return_, 1) := by decide +kernel
theorem dX6_init_0 : decode cX6_init 0 = .ok (.aload_n 0, 1) := by decide +kernel
theorem dX6_init_1 : decode cX6_init 1 = .ok (.invokespecial 3, 3) := by decide +kernel
theorem dX6_init_4 : decode cX6_init 4 = .ok (.return_, 1) := by decide +kernel
theorem dX6_readText_0 : decode cX6_readText 0 = .ok (.aload_n 0, 1) := by decide +kernel
theorem dX6_readText_1 : decode cX6_readText 1 = .ok (.aload_n 1, 1) := by decide +kernel
theorem dX6_readText_2 : decode cX6_readText 2 = .ok (.putfield 9, 3) := by decide +kernel
theorem dX6_readText_5 : decode cX6_readText 5 = .ok (.aload_n 0, 1) := by decide +kernel
theorem dX6_readText_6 : decode cX6_readText 6 = .ok (.iload_n 2, 1) := by decide +kernel
theorem dX6_readText_7 : decode cX6_readText 7 = .ok (.putfield 15, 3) := by decide +kernel
theorem dX6_readText_10 : decode cX6_readText 10 = .ok (.aload_n 0, 1) := by decide +kernel
theorem dX6_readText_11 : decode cX6_readText 11 = .ok (.iconst 0, 1) := by decide +kernel
theorem dX6_readText_12 : decode cX6_readText 12 = .ok (.putfield 19, 3) := by decide +kernel
theorem dX6_readText_15 : decode cX6_readText 15 = .ok (.aload_n 0, 1) := by decide +kernel
theorem dX6_readText_16 : decode cX6_readText 16 = .ok (.iconst 0, 1) := by decide +kernel
theorem dX6_readText_17 : decode cX6_readText 17 = .ok (.putfield 22, 3) := by decide +kernel
theorem dX6_readText_20 : decode cX6_readText 20 = .ok (.aload_n 0, 1) := by decide +kernel
theorem dX6_readText_21 : decode cX6_readText 21 = .ok (.iconst 0, 1) := by decide +kernel
theorem dX6_readText_22 : decode cX6_readText 22 = .ok (.putfield 25, 3) := by decide +kernel
theorem dX6_readText_25 : decode cX6_readText 25 = .ok (.aload_n 0, 1) := by decide +kernel
theorem dX6_readText_26 : decode cX6_readText 26 = .ok (.iconst 0, 1) := by decide +kernel
theorem dX6_readText_27 : decode cX6_readText 27 = .ok (.putfield 28, 3) := by decide +kernel
theorem dX6_readText_30 : decode cX6_readText 30 = .ok (.aload_n 0, 1) := by decide +kernel
theorem dX6_readText_31 : decode cX6_readText 31 = .ok (.aload_n 3, 1) := by decide +kernel
theorem dX6_readText_32 : decode cX6_readText 32 = .ok (.putfield 31, 3) := by decide +kernel
theorem dX6_readText_35 : decode cX6_readText 35 = .ok (.aload_n 0, 1) := by decide +kernel
theorem dX6_readText_36 : decode cX6_readText 36 = .ok (.getfield 31, 3) := by decide +kernel
theorem dX6_readText_39 : decode cX6_readText 39 = .ok (.invokevirtual 35, 3) := by decide +kernel
theorem dX6_readText_42 : decode cX6_readText 42 = .ok (.aload_n 0, 1) := by decide +kernel
theorem dX6_readText_43 : decode cX6_readText 43 = .ok (.invokevirtual 40, 3) := by decide +kernel
theorem dX6_readText_46 : decode cX6_readText 46 = .ok (.aload_n 0, 1) := by decide +kernel
theorem dX6_readText_47 : decode cX6_readText 47 = .ok (.invokevirtual 43, 3) := by decide +kernel
theorem dX6_readText_50 : decode cX6_readText 50 = .ok (.istore 4, 2) := by decide +kernel
theorem dX6_readText_52 : decode cX6_readText 52 = .ok (.iconst 0, 1) := by decide +kernel
theorem dX6_readText_53 : decode cX6_readText 53 = .ok (.istore 5, 2) := by decide +kernel
theorem dX6_readText_55 : decode cX6_readText 55 = .ok (.iload 5, 2) := by decide +kernel
theorem dX6_readText_57 : decode cX6_readText 57 = .ok (.sipush 500, 3) := by decide +kernel
theorem dX6_readText_60 : decode cX6_readText 60 = .ok (.if_icmp .ge 32, 3) := by decide +kernel
theorem dX6_readText_63 : decode cX6_readText 63 = .ok (.iload 4, 2) := by decide +kernel
theorem dX6_readText_65 : decode cX6_readText 65 = .ok (.ifCond .eq 27, 3) := by decide +kernel
theorem dX6_readText_68 : decode cX6_readText 68 = .ok (.aload_n 0, 1) := by decide +kernel
theorem dX6_readText_69 : decode cX6_readText 69 = .ok (.getfield 47, 3) := by decide +kernel
theorem dX6_readText_72 : decode cX6_readText 72 = .ok (.iconst 3, 1) := by decide +kernel
theorem dX6_readText_73 : decode cX6_readText 73 = .ok (.if_icmp .ne 19, 3) := by decide +kernel
theorem dX6_readText_76 : decode cX6_readText 76 = .ok (.aload_n 0, 1) := by decide +kernel
theorem dX6_readText_77 : decode cX6_readText 77 = .ok (.invokevirtual 40, 3) := by decide +kernel
theorem dX6_readText_80 : decode cX6_readText 80 = .ok (.aload_n 0, 1) := by decide +kernel
theorem dX6_readText_81 : decode cX6_readText 81 = .ok (.invokevirtual 43, 3) := by decide +kernel
theorem dX6_readText_84 : decode cX6_readText 84 = .ok (.istore 4, 2) := by decide +kernel
theorem dX6_readText_86 : decode cX6_readText 86 = .ok (.iinc 5 1, 3) := by decide +kernel
theorem dX6_readText_89 : decode cX6_readText 89 = .ok (.goto (-34), 3) := by decide +kernel
theorem dX6_readText_92 : decode cX6_readText 92 = .ok (.iload 4, 2) := by decide +kernel
theorem dX6_readText_94 : decode cX6_readText 94 = .ok (.ifCond .ne 5, 3) := by decide +kernel
theorem dX6_readText_97 : decode cX6_readText 97 = .ok (.iconst 0, 1) := by decide +kernel
theorem dX6_readText_98 : decode cX6_readText 98 = .ok (.ireturn, 1) := by decide +kernel
theorem dX6_readText_99 : decode cX6_readText 99 = .ok (.aload_n 0, 1) := by decide +kernel
theorem dX6_readText_100 : decode cX6_readText 100 = .ok (.getfield 47, 3) := by decide +kernel
theorem dX6_readText_103 : decode cX6_readText 103 = .ok (.ifCond .eq 9, 3) := by decide +kernel
theorem dX6_readText_106 : decode cX6_readText 106 = .ok (.aload_n 0, 1) := by decide +kernel
theorem dX6_readText_107 : decode cX6_readText 107 = .ok (.iconst 1, 1) := by decide +kernel
theorem dX6_readText_108 : decode cX6_readText 108 = .ok (.invokevirtual 50, 3) := by decide +kernel
theorem dX6_readText_111 : decode cX6_readText 111 = .ok (.ireturn, 1) := by decide +kernel
theorem dX6_readText_112 : decode cX6_readText 112 = .ok (.aload_n 0, 1) := by decide +kernel
theorem dX6_readText_113 : decode cX6_readText 113 = .ok (.getfield 31, 3) := by decide +kernel
theorem dX6_readText_116 : decode cX6_readText 116 = .ok (.getfield 54, 3) := by decide +kernel
theorem dX6_readText_119 : decode cX6_readText 119 = .ok (.ifCond .gt 11, 3) := by decide +kernel
theorem dX6_readText_122 : decode cX6_readText 122 = .ok (.aload_n 0, 1) := by decide +kernel
theorem dX6_readText_123 : decode cX6_readText 123 = .ok (.iconst 5, 1) := by decide +kernel
theorem dX6_readText_124 : decode cX6_readText 124 = .ok (.invokevirtual 50, 3) := by decide +kernel
theorem dX6_readText_127 : decode cX6_readText 127 = .ok (.ifCond .eq 7, 3) := by decide +kernel
theorem dX6_readText_130 : decode cX6_readText 130 = .ok (.iconst 1, 1) := by decide +kernel
theorem dX6_readText_131 : decode cX6_readText 131 = .ok (.goto 4, 3) := by decide +kernel
theorem dX6_readText_134 : decode cX6_readText 134 = .ok (.iconst 0, 1) := by decide +kernel
theorem dX6_readText_135 : decode cX6_readText 135 = .ok (.ireturn, 1) := by decide +kernel
theorem dX6_fail_0 : decode cX6_fail 0 = .ok (.aload_n 0, 1) := by decide +kernel
theorem dX6_fail_1 : decode cX6_fail 1 = .ok (.iload_n 1, 1) := by decide +kernel
theorem dX6_fail_2 : decode cX6_fail 2 = .ok (.putfield 25, 3) := by decide +kernel
theorem dX6_fail_5 : decode cX6_fail 5 = .ok (.aload_n 0, 1) := by decide +kernel
theorem dX6_fail_6 : decode cX6_fail 6 = .ok (.aload_n 0, 1) := by decide +kernel
theorem dX6_fail_7 : decode cX6_fail 7 = .ok (.getfield 57, 3) := by decide +kernel
theorem dX6_fail_10 : decode cX6_fail 10 = .ok (.putfield 28, 3) := by decide +kernel
theorem dX6_fail_13 : decode cX6_fail 13 = .ok (.iconst 0, 1) := by decide +kernel
theorem dX6_fail_14 : decode cX6_fail 14 = .ok (.ireturn, 1) := by decide +kernel
theorem dX6_advance_0 : decode cX6_advance 0 = .ok (.aload_n 0, 1) := by decide +kernel
theorem dX6_advance_1 : decode cX6_advance 1 = .ok (.getfield 19, 3) := by decide +kernel
theorem dX6_advance_4 : decode cX6_advance 4 = .ok (.aload_n 0, 1) := by decide +kernel
theorem dX6_advance_5 : decode cX6_advance 5 = .ok (.getfield 15, 3) := by decide +kernel
theorem dX6_advance_8 : decode cX6_advance 8 = .ok (.if_icmp .ge 30, 3) := by decide +kernel
theorem dX6_advance_11 : decode cX6_advance 11 = .ok (.aload_n 0, 1) := by decide +kernel
theorem dX6_advance_12 : decode cX6_advance 12 = .ok (.getfield 9, 3) := by decide +kernel
theorem dX6_advance_15 : decode cX6_advance 15 = .ok (.aload_n 0, 1) := by decide +kernel
theorem dX6_advance_16 : decode cX6_advance 16 = .ok (.getfield 19, 3) := by decide +kernel
theorem dX6_advance_19 : decode cX6_advance 19 = .ok (.iaload, 1) := by decide +kernel
theorem dX6_advance_20 : decode cX6_advance 20 = .ok (.bipush 32, 2) := by decide +kernel
theorem dX6_advance_22 : decode cX6_advance 22 = .ok (.if_icmp .ne 16, 3) := by decide +kernel
theorem dX6_advance_25 : decode cX6_advance 25 = .ok (.aload_n 0, 1) := by decide +kernel
theorem dX6_advance_26 : decode cX6_advance 26 = .ok (.dup, 1) := by decide +kernel
theorem dX6_advance_27 : decode cX6_advance 27 = .ok (.getfield 19, 3) := by decide +kernel
theorem dX6_advance_30 : decode cX6_advance 30 = .ok (.iconst 1, 1) := by decide +kernel
theorem dX6_advance_31 : decode cX6_advance 31 = .ok (.iadd, 1) := by decide +kernel
theorem dX6_advance_32 : decode cX6_advance 32 = .ok (.putfield 19, 3) := by decide +kernel
theorem dX6_advance_35 : decode cX6_advance 35 = .ok (.goto (-35), 3) := by decide +kernel
theorem dX6_advance_38 : decode cX6_advance 38 = .ok (.aload_n 0, 1) := by decide +kernel
theorem dX6_advance_39 : decode cX6_advance 39 = .ok (.aload_n 0, 1) := by decide +kernel
theorem dX6_advance_40 : decode cX6_advance 40 = .ok (.getfield 19, 3) := by decide +kernel
theorem dX6_advance_43 : decode cX6_advance 43 = .ok (.putfield 57, 3) := by decide +kernel
theorem dX6_advance_46 : decode cX6_advance 46 = .ok (.aload_n 0, 1) := by decide +kernel
theorem dX6_advance_47 : decode cX6_advance 47 = .ok (.getfield 19, 3) := by decide +kernel
theorem dX6_advance_50 : decode cX6_advance 50 = .ok (.aload_n 0, 1) := by decide +kernel
theorem dX6_advance_51 : decode cX6_advance 51 = .ok (.getfield 15, 3) := by decide +kernel
theorem dX6_advance_54 : decode cX6_advance 54 = .ok (.if_icmp .lt 11, 3) := by decide +kernel
theorem dX6_advance_57 : decode cX6_advance 57 = .ok (.aload_n 0, 1) := by decide +kernel
theorem dX6_advance_58 : decode cX6_advance 58 = .ok (.iconst 0, 1) := by decide +kernel
theorem dX6_advance_59 : decode cX6_advance 59 = .ok (.putfield 47, 3) := by decide +kernel
theorem dX6_advance_62 : decode cX6_advance 62 = .ok (.goto 98, 3) := by decide +kernel
theorem dX6_advance_65 : decode cX6_advance 65 = .ok (.aload_n 0, 1) := by decide +kernel
theorem dX6_advance_66 : decode cX6_advance 66 = .ok (.getfield 9, 3) := by decide +kernel
theorem dX6_advance_69 : decode cX6_advance 69 = .ok (.aload_n 0, 1) := by decide +kernel
theorem dX6_advance_70 : decode cX6_advance 70 = .ok (.getfield 19, 3) := by decide +kernel
theorem dX6_advance_73 : decode cX6_advance 73 = .ok (.iaload, 1) := by decide +kernel
theorem dX6_advance_74 : decode cX6_advance 74 = .ok (.invokestatic 60, 3) := by decide +kernel
theorem dX6_advance_77 : decode cX6_advance 77 = .ok (.ifCond .eq 10, 3) := by decide +kernel
theorem dX6_advance_80 : decode cX6_advance 80 = .ok (.aload_n 0, 1) := by decide +kernel
theorem dX6_advance_81 : decode cX6_advance 81 = .ok (.invokevirtual 63, 3) := by decide +kernel
theorem dX6_advance_84 : decode cX6_advance 84 = .ok (.goto 76, 3) := by decide +kernel
theorem dX6_advance_87 : decode cX6_advance 87 = .ok (.aload_n 0, 1) := by decide +kernel
theorem dX6_advance_88 : decode cX6_advance 88 = .ok (.getfield 9, 3) := by decide +kernel
theorem dX6_advance_91 : decode cX6_advance 91 = .ok (.aload_n 0, 1) := by decide +kernel
theorem dX6_advance_92 : decode cX6_advance 92 = .ok (.getfield 19, 3) := by decide +kernel
theorem dX6_advance_95 : decode cX6_advance 95 = .ok (.iaload, 1) := by decide +kernel
theorem dX6_advance_96 : decode cX6_advance 96 = .ok (.invokestatic 66, 3) := by decide +kernel
theorem dX6_advance_99 : decode cX6_advance 99 = .ok (.ifCond .eq 10, 3) := by decide +kernel
theorem dX6_advance_102 : decode cX6_advance 102 = .ok (.aload_n 0, 1) := by decide +kernel
theorem dX6_advance_103 : decode cX6_advance 103 = .ok (.invokevirtual 69, 3) := by decide +kernel
theorem dX6_advance_106 : decode cX6_advance 106 = .ok (.goto 54, 3) := by decide +kernel
theorem dX6_advance_109 : decode cX6_advance 109 = .ok (.aload_n 0, 1) := by decide +kernel
theorem dX6_advance_110 : decode cX6_advance 110 = .ok (.aload_n 0, 1) := by decide +kernel
theorem dX6_advance_111 : decode cX6_advance 111 = .ok (.getfield 9, 3) := by decide +kernel
theorem dX6_advance_114 : decode cX6_advance 114 = .ok (.aload_n 0, 1) := by decide +kernel
theorem dX6_advance_115 : decode cX6_advance 115 = .ok (.getfield 19, 3) := by decide +kernel
theorem dX6_advance_118 : decode cX6_advance 118 = .ok (.iaload, 1) := by decide +kernel
theorem dX6_advance_119 : decode cX6_advance 119 = .ok (.bipush 59, 2) := by decide +kernel
theorem dX6_advance_121 : decode cX6_advance 121 = .ok (.if_icmp .ne 7, 3) := by decide +kernel
theorem dX6_advance_124 : decode cX6_advance 124 = .ok (.iconst 3, 1) := by decide +kernel
theorem dX6_advance_125 : decode cX6_advance 125 = .ok (.goto 22, 3) := by decide +kernel
theorem dX6_advance_128 : decode cX6_advance 128 = .ok (.aload_n 0, 1) := by decide +kernel
theorem dX6_advance_129 : decode cX6_advance 129 = .ok (.getfield 9, 3) := by decide +kernel
theorem dX6_advance_132 : decode cX6_advance 132 = .ok (.aload_n 0, 1) := by decide +kernel
theorem dX6_advance_133 : decode cX6_advance 133 = .ok (.getfield 19, 3) := by decide +kernel
theorem dX6_advance_136 : decode cX6_advance 136 = .ok (.iaload, 1) := by decide +kernel
theorem dX6_advance_137 : decode cX6_advance 137 = .ok (.bipush 44, 2) := by decide +kernel
theorem dX6_advance_139 : decode cX6_advance 139 = .ok (.if_icmp .ne 7, 3) := by decide +kernel
theorem dX6_advance_142 : decode cX6_advance 142 = .ok (.iconst 4, 1) := by decide +kernel
theorem dX6_advance_143 : decode cX6_advance 143 = .ok (.goto 4, 3) := by decide +kernel
theorem dX6_advance_146 : decode cX6_advance 146 = .ok (.iconst 5, 1) := by decide +kernel
theorem dX6_advance_147 : decode cX6_advance 147 = .ok (.putfield 47, 3) := by decide +kernel
theorem dX6_advance_150 : decode cX6_advance 150 = .ok (.aload_n 0, 1) := by decide +kernel
theorem dX6_advance_151 : decode cX6_advance 151 = .ok (.dup, 1) := by decide +kernel
theorem dX6_advance_152 : decode cX6_advance 152 = .ok (.getfield 19, 3) := by decide +kernel
theorem dX6_advance_155 : decode cX6_advance 155 = .ok (.iconst 1, 1) := by decide +kernel
theorem dX6_advance_156 : decode cX6_advance 156 = .ok (.iadd, 1) := by decide +kernel
theorem dX6_advance_157 : decode cX6_advance 157 = .ok (.putfield 19, 3) := by decide +kernel
theorem dX6_advance_160 : decode cX6_advance 160 = .ok (.return_, 1) := by decide +kernel
theorem dX6_takeWord_0 : decode cX6_takeWord 0 = .ok (.aload_n 0, 1) := by decide +kernel
theorem dX6_takeWord_1 : decode cX6_takeWord 1 = .ok (.lconst 0, 1) := by decide +kernel
theorem dX6_takeWord_2 : decode cX6_takeWord 2 = .ok (.putfield 72, 3) := by decide +kernel
theorem dX6_takeWord_5 : decode cX6_takeWord 5 = .ok (.aload_n 0, 1) := by decide +kernel
theorem dX6_takeWord_6 : decode cX6_takeWord 6 = .ok (.getfield 19, 3) := by decide +kernel
theorem dX6_takeWord_9 : decode cX6_takeWord 9 = .ok (.aload_n 0, 1) := by decide +kernel
theorem dX6_takeWord_10 : decode cX6_takeWord 10 = .ok (.getfield 15, 3) := by decide +kernel
theorem dX6_takeWord_13 : decode cX6_takeWord 13 = .ok (.if_icmp .ge 57, 3) := by decide +kernel
theorem dX6_takeWord_16 : decode cX6_takeWord 16 = .ok (.aload_n 0, 1) := by decide +kernel
theorem dX6_takeWord_17 : decode cX6_takeWord 17 = .ok (.getfield 9, 3) := by decide +kernel
theorem dX6_takeWord_20 : decode cX6_takeWord 20 = .ok (.aload_n 0, 1) := by decide +kernel
theorem dX6_takeWord_21 : decode cX6_takeWord 21 = .ok (.getfield 19, 3) := by decide +kernel
theorem dX6_takeWord_24 : decode cX6_takeWord 24 = .ok (.iaload, 1) := by decide +kernel
theorem dX6_takeWord_25 : decode cX6_takeWord 25 = .ok (.invokestatic 60, 3) := by decide +kernel
theorem dX6_takeWord_28 : decode cX6_takeWord 28 = .ok (.ifCond .eq 42, 3) := by decide +kernel
theorem dX6_takeWord_31 : decode cX6_takeWord 31 = .ok (.aload_n 0, 1) := by decide +kernel
theorem dX6_takeWord_32 : decode cX6_takeWord 32 = .ok (.aload_n 0, 1) := by decide +kernel
theorem dX6_takeWord_33 : decode cX6_takeWord 33 = .ok (.getfield 72, 3) := by decide +kernel
theorem dX6_takeWord_36 : decode cX6_takeWord 36 = .ok (.iconst 5, 1) := by decide +kernel
theorem dX6_takeWord_37 : decode cX6_takeWord 37 = .ok (.lshl, 1) := by decide +kernel
theorem dX6_takeWord_38 : decode cX6_takeWord 38 = .ok (.aload_n 0, 1) := by decide +kernel
theorem dX6_takeWord_39 : decode cX6_takeWord 39 = .ok (.getfield 9, 3) := by decide +kernel
theorem dX6_takeWord_42 : decode cX6_takeWord 42 = .ok (.aload_n 0, 1) := by decide +kernel
theorem dX6_takeWord_43 : decode cX6_takeWord 43 = .ok (.getfield 19, 3) := by decide +kernel
theorem dX6_takeWord_46 : decode cX6_takeWord 46 = .ok (.iaload, 1) := by decide +kernel
theorem dX6_takeWord_47 : decode cX6_takeWord 47 = .ok (.bipush 97, 2) := by decide +kernel
theorem dX6_takeWord_49 : decode cX6_takeWord 49 = .ok (.isub, 1) := by decide +kernel
theorem dX6_takeWord_50 : decode cX6_takeWord 50 = .ok (.iconst 1, 1) := by decide +kernel
theorem dX6_takeWord_51 : decode cX6_takeWord 51 = .ok (.iadd, 1) := by decide +kernel
theorem dX6_takeWord_52 : decode cX6_takeWord 52 = .ok (.i2l, 1) := by decide +kernel
theorem dX6_takeWord_53 : decode cX6_takeWord 53 = .ok (.lor, 1) := by decide +kernel
theorem dX6_takeWord_54 : decode cX6_takeWord 54 = .ok (.putfield 72, 3) := by decide +kernel
theorem dX6_takeWord_57 : decode cX6_takeWord 57 = .ok (.aload_n 0, 1) := by decide +kernel
theorem dX6_takeWord_58 : decode cX6_takeWord 58 = .ok (.dup, 1) := by decide +kernel
theorem dX6_takeWord_59 : decode cX6_takeWord 59 = .ok (.getfield 19, 3) := by decide +kernel
theorem dX6_takeWord_62 : decode cX6_takeWord 62 = .ok (.iconst 1, 1) := by decide +kernel
theorem dX6_takeWord_63 : decode cX6_takeWord 63 = .ok (.iadd, 1) := by decide +kernel
theorem dX6_takeWord_64 : decode cX6_takeWord 64 = .ok (.putfield 19, 3) := by decide +kernel
theorem dX6_takeWord_67 : decode cX6_takeWord 67 = .ok (.goto (-62), 3) := by decide +kernel
theorem dX6_takeWord_70 : decode cX6_takeWord 70 = .ok (.aload_n 0, 1) := by decide +kernel
theorem dX6_takeWord_71 : decode cX6_takeWord 71 = .ok (.aload_n 0, 1) := by decide +kernel
theorem dX6_takeWord_72 : decode cX6_takeWord 72 = .ok (.getfield 19, 3) := by decide +kernel
theorem dX6_takeWord_75 : decode cX6_takeWord 75 = .ok (.aload_n 0, 1) := by decide +kernel
theorem dX6_takeWord_76 : decode cX6_takeWord 76 = .ok (.getfield 57, 3) := by decide +kernel
theorem dX6_takeWord_79 : decode cX6_takeWord 79 = .ok (.isub, 1) := by decide +kernel
theorem dX6_takeWord_80 : decode cX6_takeWord 80 = .ok (.bipush 7, 2) := by decide +kernel
theorem dX6_takeWord_82 : decode cX6_takeWord 82 = .ok (.if_icmp .le 7, 3) := by decide +kernel
theorem dX6_takeWord_85 : decode cX6_takeWord 85 = .ok (.iconst 5, 1) := by decide +kernel
theorem dX6_takeWord_86 : decode cX6_takeWord 86 = .ok (.goto 4, 3) := by decide +kernel
theorem dX6_takeWord_89 : decode cX6_takeWord 89 = .ok (.iconst 1, 1) := by decide +kernel
theorem dX6_takeWord_90 : decode cX6_takeWord 90 = .ok (.putfield 47, 3) := by decide +kernel
theorem dX6_takeWord_93 : decode cX6_takeWord 93 = .ok (.return_, 1) := by decide +kernel
theorem dX6_takeWhole_0 : decode cX6_takeWhole 0 = .ok (.aload_n 0, 1) := by decide +kernel
theorem dX6_takeWhole_1 : decode cX6_takeWhole 1 = .ok (.iconst 0, 1) := by decide +kernel
theorem dX6_takeWhole_2 : decode cX6_takeWhole 2 = .ok (.putfield 76, 3) := by decide +kernel
theorem dX6_takeWhole_5 : decode cX6_takeWhole 5 = .ok (.aload_n 0, 1) := by decide +kernel
theorem dX6_takeWhole_6 : decode cX6_takeWhole 6 = .ok (.getfield 19, 3) := by decide +kernel
theorem dX6_takeWhole_9 : decode cX6_takeWhole 9 = .ok (.aload_n 0, 1) := by decide +kernel
theorem dX6_takeWhole_10 : decode cX6_takeWhole 10 = .ok (.getfield 15, 3) := by decide +kernel
theorem dX6_takeWhole_13 : decode cX6_takeWhole 13 = .ok (.if_icmp .ge 55, 3) := by decide +kernel
theorem dX6_takeWhole_16 : decode cX6_takeWhole 16 = .ok (.aload_n 0, 1) := by decide +kernel
theorem dX6_takeWhole_17 : decode cX6_takeWhole 17 = .ok (.getfield 9, 3) := by decide +kernel
theorem dX6_takeWhole_20 : decode cX6_takeWhole 20 = .ok (.aload_n 0, 1) := by decide +kernel
theorem dX6_takeWhole_21 : decode cX6_takeWhole 21 = .ok (.getfield 19, 3) := by decide +kernel
theorem dX6_takeWhole_24 : decode cX6_takeWhole 24 = .ok (.iaload, 1) := by decide +kernel
theorem dX6_takeWhole_25 : decode cX6_takeWhole 25 = .ok (.invokestatic 66, 3) := by decide +kernel
theorem dX6_takeWhole_28 : decode cX6_takeWhole 28 = .ok (.ifCond .eq 40, 3) := by decide +kernel
theorem dX6_takeWhole_31 : decode cX6_takeWhole 31 = .ok (.aload_n 0, 1) := by decide +kernel
theorem dX6_takeWhole_32 : decode cX6_takeWhole 32 = .ok (.aload_n 0, 1) := by decide +kernel
theorem dX6_takeWhole_33 : decode cX6_takeWhole 33 = .ok (.getfield 76, 3) := by decide +kernel
theorem dX6_takeWhole_36 : decode cX6_takeWhole 36 = .ok (.bipush 10, 2) := by decide +kernel
theorem dX6_takeWhole_38 : decode cX6_takeWhole 38 = .ok (.imul, 1) := by decide +kernel
theorem dX6_takeWhole_39 : decode cX6_takeWhole 39 = .ok (.aload_n 0, 1) := by decide +kernel
theorem dX6_takeWhole_40 : decode cX6_takeWhole 40 = .ok (.getfield 9, 3) := by decide +kernel
theorem dX6_takeWhole_43 : decode cX6_takeWhole 43 = .ok (.aload_n 0, 1) := by decide +kernel
theorem dX6_takeWhole_44 : decode cX6_takeWhole 44 = .ok (.getfield 19, 3) := by decide +kernel
theorem dX6_takeWhole_47 : decode cX6_takeWhole 47 = .ok (.iaload, 1) := by decide +kernel
theorem dX6_takeWhole_48 : decode cX6_takeWhole 48 = .ok (.iadd, 1) := by decide +kernel
theorem dX6_takeWhole_49 : decode cX6_takeWhole 49 = .ok (.bipush 48, 2) := by decide +kernel
theorem dX6_takeWhole_51 : decode cX6_takeWhole 51 = .ok (.isub, 1) := by decide +kernel
theorem dX6_takeWhole_52 : decode cX6_takeWhole 52 = .ok (.putfield 76, 3) := by decide +kernel
theorem dX6_takeWhole_55 : decode cX6_takeWhole 55 = .ok (.aload_n 0, 1) := by decide +kernel
theorem dX6_takeWhole_56 : decode cX6_takeWhole 56 = .ok (.dup, 1) := by decide +kernel
theorem dX6_takeWhole_57 : decode cX6_takeWhole 57 = .ok (.getfield 19, 3) := by decide +kernel
theorem dX6_takeWhole_60 : decode cX6_takeWhole 60 = .ok (.iconst 1, 1) := by decide +kernel
theorem dX6_takeWhole_61 : decode cX6_takeWhole 61 = .ok (.iadd, 1) := by decide +kernel
theorem dX6_takeWhole_62 : decode cX6_takeWhole 62 = .ok (.putfield 19, 3) := by decide +kernel
theorem dX6_takeWhole_65 : decode cX6_takeWhole 65 = .ok (.goto (-60), 3) := by decide +kernel
theorem dX6_takeWhole_68 : decode cX6_takeWhole 68 = .ok (.aload_n 0, 1) := by decide +kernel
theorem dX6_takeWhole_69 : decode cX6_takeWhole 69 = .ok (.aload_n 0, 1) := by decide +kernel
theorem dX6_takeWhole_70 : decode cX6_takeWhole 70 = .ok (.getfield 19, 3) := by decide +kernel
theorem dX6_takeWhole_73 : decode cX6_takeWhole 73 = .ok (.aload_n 0, 1) := by decide +kernel
theorem dX6_takeWhole_74 : decode cX6_takeWhole 74 = .ok (.getfield 57, 3) := by decide +kernel
theorem dX6_takeWhole_77 : decode cX6_takeWhole 77 = .ok (.isub, 1) := by decide +kernel
theorem dX6_takeWhole_78 : decode cX6_takeWhole 78 = .ok (.iconst 3, 1) := by decide +kernel
theorem dX6_takeWhole_79 : decode cX6_takeWhole 79 = .ok (.if_icmp .le 7, 3) := by decide +kernel
theorem dX6_takeWhole_82 : decode cX6_takeWhole 82 = .ok (.iconst 5, 1) := by decide +kernel
theorem dX6_takeWhole_83 : decode cX6_takeWhole 83 = .ok (.goto 4, 3) := by decide +kernel
theorem dX6_takeWhole_86 : decode cX6_takeWhole 86 = .ok (.iconst 2, 1) := by decide +kernel
theorem dX6_takeWhole_87 : decode cX6_takeWhole 87 = .ok (.putfield 47, 3) := by decide +kernel
theorem dX6_takeWhole_90 : decode cX6_takeWhole 90 = .ok (.return_, 1) := by decide +kernel
theorem dX6_isLetter_0 : decode cX6_isLetter 0 = .ok (.iload_n 0, 1) := by decide +kernel
theorem dX6_isLetter_1 : decode cX6_isLetter 1 = .ok (.bipush 97, 2) := by decide +kernel
theorem dX6_isLetter_3 : decode cX6_isLetter 3 = .ok (.if_icmp .lt 13, 3) := by decide +kernel
theorem dX6_isLetter_6 : decode cX6_isLetter 6 = .ok (.iload_n 0, 1) := by decide +kernel
theorem dX6_isLetter_7 : decode cX6_isLetter 7 = .ok (.bipush 122, 2) := by decide +kernel
theorem dX6_isLetter_9 : decode cX6_isLetter 9 = .ok (.if_icmp .gt 7, 3) := by decide +kernel
theorem dX6_isLetter_12 : decode cX6_isLetter 12 = .ok (.iconst 1, 1) := by decide +kernel
theorem dX6_isLetter_13 : decode cX6_isLetter 13 = .ok (.goto 4, 3) := by decide +kernel
theorem dX6_isLetter_16 : decode cX6_isLetter 16 = .ok (.iconst 0, 1) := by decide +kernel
theorem dX6_isLetter_17 : decode cX6_isLetter 17 = .ok (.ireturn, 1) := by decide +kernel
theorem dX6_isDigit_0 : decode cX6_isDigit 0 = .ok (.iload_n 0, 1) := by decide +kernel
theorem dX6_isDigit_1 : decode cX6_isDigit 1 = .ok (.bipush 48, 2) := by decide +kernel
theorem dX6_isDigit_3 : decode cX6_isDigit 3 = .ok (.if_icmp .lt 13, 3) := by decide +kernel
theorem dX6_isDigit_6 : decode cX6_isDigit 6 = .ok (.iload_n 0, 1) := by decide +kernel
theorem dX6_isDigit_7 : decode cX6_isDigit 7 = .ok (.bipush 57, 2) := by decide +kernel
theorem dX6_isDigit_9 : decode cX6_isDigit 9 = .ok (.if_icmp .gt 7, 3) := by decide +kernel
theorem dX6_isDigit_12 : decode cX6_isDigit 12 = .ok (.iconst 1, 1) := by decide +kernel
theorem dX6_isDigit_13 : decode cX6_isDigit 13 = .ok (.goto 4, 3) := by decide +kernel
theorem dX6_isDigit_16 : decode cX6_isDigit 16 = .ok (.iconst 0, 1) := by decide +kernel
theorem dX6_isDigit_17 : decode cX6_isDigit 17 = .ok (.ireturn, 1) := by decide +kernel
theorem dX6_isWord_0 : decode cX6_isWord 0 = .ok (.lconst 0, 1) := by decide +kernel
theorem dX6_isWord_1 : decode cX6_isWord 1 = .ok (.lstore_n 2, 1) := by decide +kernel
theorem dX6_isWord_2 : decode cX6_isWord 2 = .ok (.iconst 0, 1) := by decide +kernel
theorem dX6_isWord_3 : decode cX6_isWord 3 = .ok (.istore 4, 2) := by decide +kernel
theorem dX6_isWord_5 : decode cX6_isWord 5 = .ok (.iload 4, 2) := by decide +kernel
theorem dX6_isWord_7 : decode cX6_isWord 7 = .ok (.aload_n 1, 1) := by decide +kernel
theorem dX6_isWord_8 : decode cX6_isWord 8 = .ok (.invokevirtual 79, 3) := by decide +kernel
theorem dX6_isWord_11 : decode cX6_isWord 11 = .ok (.if_icmp .ge 26, 3) := by decide +kernel
theorem dX6_isWord_14 : decode cX6_isWord 14 = .ok (.lload_n 2, 1) := by decide +kernel
theorem dX6_isWord_15 : decode cX6_isWord 15 = .ok (.iconst 5, 1) := by decide +kernel
theorem dX6_isWord_16 : decode cX6_isWord 16 = .ok (.lshl, 1) := by decide +kernel
theorem dX6_isWord_17 : decode cX6_isWord 17 = .ok (.aload_n 1, 1) := by decide +kernel
theorem dX6_isWord_18 : decode cX6_isWord 18 = .ok (.iload 4, 2) := by decide +kernel
theorem dX6_isWord_20 : decode cX6_isWord 20 = .ok (.invokevirtual 85, 3) := by decide +kernel
theorem dX6_isWord_23 : decode cX6_isWord 23 = .ok (.bipush 97, 2) := by decide +kernel
theorem dX6_isWord_25 : decode cX6_isWord 25 = .ok (.isub, 1) := by decide +kernel
theorem dX6_isWord_26 : decode cX6_isWord 26 = .ok (.iconst 1, 1) := by decide +kernel
theorem dX6_isWord_27 : decode cX6_isWord 27 = .ok (.iadd, 1) := by decide +kernel
theorem dX6_isWord_28 : decode cX6_isWord 28 = .ok (.i2l, 1) := by decide +kernel
theorem dX6_isWord_29 : decode cX6_isWord 29 = .ok (.lor, 1) := by decide +kernel
theorem dX6_isWord_30 : decode cX6_isWord 30 = .ok (.lstore_n 2, 1) := by decide +kernel
theorem dX6_isWord_31 : decode cX6_isWord 31 = .ok (.iinc 4 1, 3) := by decide +kernel
theorem dX6_isWord_34 : decode cX6_isWord 34 = .ok (.goto (-29), 3) := by decide +kernel
theorem dX6_isWord_37 : decode cX6_isWord 37 = .ok (.aload_n 0, 1) := by decide +kernel
theorem dX6_isWord_38 : decode cX6_isWord 38 = .ok (.getfield 47, 3) := by decide +kernel
theorem dX6_isWord_41 : decode cX6_isWord 41 = .ok (.iconst 1, 1) := by decide +kernel
theorem dX6_isWord_42 : decode cX6_isWord 42 = .ok (.if_icmp .ne 16, 3) := by decide +kernel
theorem dX6_isWord_45 : decode cX6_isWord 45 = .ok (.aload_n 0, 1) := by decide +kernel
theorem dX6_isWord_46 : decode cX6_isWord 46 = .ok (.getfield 72, 3) := by decide +kernel
theorem dX6_isWord_49 : decode cX6_isWord 49 = .ok (.lload_n 2, 1) := by decide +kernel
theorem dX6_isWord_50 : decode cX6_isWord 50 = .ok (.lcmp, 1) := by decide +kernel
theorem dX6_isWord_51 : decode cX6_isWord 51 = .ok (.ifCond .ne 7, 3) := by decide +kernel
theorem dX6_isWord_54 : decode cX6_isWord 54 = .ok (.iconst 1, 1) := by decide +kernel
theorem dX6_isWord_55 : decode cX6_isWord 55 = .ok (.goto 4, 3) := by decide +kernel
theorem dX6_isWord_58 : decode cX6_isWord 58 = .ok (.iconst 0, 1) := by decide +kernel
theorem dX6_isWord_59 : decode cX6_isWord 59 = .ok (.ireturn, 1) := by decide +kernel
theorem dX6_wordOfRule_0 : decode cX6_wordOfRule 0 = .ok (.iload_n 0, 1) := by decide +kernel
theorem dX6_wordOfRule_1 : decode cX6_wordOfRule 1 = .ok (.tableswitch 36 0 2 #[27, 30, 33], 27) := by decide +kernel
theorem dX6_wordOfRule_28 : decode cX6_wordOfRule 28 = .ok (.ldc 89, 2) := by decide +kernel
theorem dX6_wordOfRule_30 : decode cX6_wordOfRule 30 = .ok (.areturn, 1) := by decide +kernel
theorem dX6_wordOfRule_31 : decode cX6_wordOfRule 31 = .ok (.ldc 91, 2) := by decide +kernel
theorem dX6_wordOfRule_33 : decode cX6_wordOfRule 33 = .ok (.areturn, 1) := by decide +kernel
theorem dX6_wordOfRule_34 : decode cX6_wordOfRule 34 = .ok (.ldc 93, 2) := by decide +kernel
theorem dX6_wordOfRule_36 : decode cX6_wordOfRule 36 = .ok (.areturn, 1) := by decide +kernel
theorem dX6_wordOfRule_37 : decode cX6_wordOfRule 37 = .ok (.ldc 95, 2) := by decide +kernel
theorem dX6_wordOfRule_39 : decode cX6_wordOfRule 39 = .ok (.areturn, 1) := by decide +kernel
theorem dX6_wordOfValue_0 : decode cX6_wordOfValue 0 = .ok (.iload_n 0, 1) := by decide +kernel
theorem dX6_wordOfValue_1 : decode cX6_wordOfValue 1 = .ok (.tableswitch 50 0 4 #[35, 38, 41, 44, 47], 35) := by decide +kernel
theorem dX6_wordOfValue_36 : decode cX6_wordOfValue 36 = .ok (.ldc 97, 2) := by decide +kernel
theorem dX6_wordOfValue_38 : decode cX6_wordOfValue 38 = .ok (.areturn, 1) := by decide +kernel
theorem dX6_wordOfValue_39 : decode cX6_wordOfValue 39 = .ok (.ldc 99, 2) := by decide +kernel
theorem dX6_wordOfValue_41 : decode cX6_wordOfValue 41 = .ok (.areturn, 1) := by decide +kernel
theorem dX6_wordOfValue_42 : decode cX6_wordOfValue 42 = .ok (.ldc 101, 2) := by decide +kernel
theorem dX6_wordOfValue_44 : decode cX6_wordOfValue 44 = .ok (.areturn, 1) := by decide +kernel
theorem dX6_wordOfValue_45 : decode cX6_wordOfValue 45 = .ok (.ldc 103, 2) := by decide +kernel
theorem dX6_wordOfValue_47 : decode cX6_wordOfValue 47 = .ok (.areturn, 1) := by decide +kernel
theorem dX6_wordOfValue_48 : decode cX6_wordOfValue 48 = .ok (.ldc 105, 2) := by decide +kernel
theorem dX6_wordOfValue_50 : decode cX6_wordOfValue 50 = .ok (.areturn, 1) := by decide +kernel
theorem dX6_wordOfValue_51 : decode cX6_wordOfValue 51 = .ok (.ldc 107, 2) := by decide +kernel
theorem dX6_wordOfValue_53 : decode cX6_wordOfValue 53 = .ok (.areturn, 1) := by decide +kernel
theorem dX6_isReserved_0 : decode cX6_isReserved 0 = .ok (.aload_n 0, 1) := by decide +kernel
theorem dX6_isReserved_1 : decode cX6_isReserved 1 = .ok (.ldc 109, 2) := by decide +kernel
theorem dX6_isReserved_3 : decode cX6_isReserved 3 = .ok (.invokevirtual 111, 3) := by decide +kernel
theorem dX6_isReserved_6 : decode cX6_isReserved 6 = .ok (.ifCond .ne 12, 3) := by decide +kernel
theorem dX6_isReserved_9 : decode cX6_isReserved 9 = .ok (.aload_n 0, 1) := by decide +kernel
theorem dX6_isReserved_10 : decode cX6_isReserved 10 = .ok (.ldc 115, 2) := by decide +kernel
theorem dX6_isReserved_12 : decode cX6_isReserved 12 = .ok (.invokevirtual 111, 3) := by decide +kernel
theorem dX6_isReserved_15 : decode cX6_isReserved 15 = .ok (.ifCond .eq 7, 3) := by decide +kernel
theorem dX6_isReserved_18 : decode cX6_isReserved 18 = .ok (.iconst 1, 1) := by decide +kernel
theorem dX6_isReserved_19 : decode cX6_isReserved 19 = .ok (.goto 4, 3) := by decide +kernel
theorem dX6_isReserved_22 : decode cX6_isReserved 22 = .ok (.iconst 0, 1) := by decide +kernel
theorem dX6_isReserved_23 : decode cX6_isReserved 23 = .ok (.istore_n 1, 1) := by decide +kernel
theorem dX6_isReserved_24 : decode cX6_isReserved 24 = .ok (.iconst 0, 1) := by decide +kernel
theorem dX6_isReserved_25 : decode cX6_isReserved 25 = .ok (.istore_n 2, 1) := by decide +kernel
theorem dX6_isReserved_26 : decode cX6_isReserved 26 = .ok (.iload_n 2, 1) := by decide +kernel
theorem dX6_isReserved_27 : decode cX6_isReserved 27 = .ok (.iconst 4, 1) := by decide +kernel
theorem dX6_isReserved_28 : decode cX6_isReserved 28 = .ok (.if_icmp .ge 30, 3) := by decide +kernel
theorem dX6_isReserved_31 : decode cX6_isReserved 31 = .ok (.iload_n 1, 1) := by decide +kernel
theorem dX6_isReserved_32 : decode cX6_isReserved 32 = .ok (.ifCond .ne 14, 3) := by decide +kernel
theorem dX6_isReserved_35 : decode cX6_isReserved 35 = .ok (.aload_n 0, 1) := by decide +kernel
theorem dX6_isReserved_36 : decode cX6_isReserved 36 = .ok (.iload_n 2, 1) := by decide +kernel
theorem dX6_isReserved_37 : decode cX6_isReserved 37 = .ok (.invokestatic 117, 3) := by decide +kernel
theorem dX6_isReserved_40 : decode cX6_isReserved 40 = .ok (.invokevirtual 111, 3) := by decide +kernel
theorem dX6_isReserved_43 : decode cX6_isReserved 43 = .ok (.ifCond .eq 7, 3) := by decide +kernel
theorem dX6_isReserved_46 : decode cX6_isReserved 46 = .ok (.iconst 1, 1) := by decide +kernel
theorem dX6_isReserved_47 : decode cX6_isReserved 47 = .ok (.goto 4, 3) := by decide +kernel
theorem dX6_isReserved_50 : decode cX6_isReserved 50 = .ok (.iconst 0, 1) := by decide +kernel
theorem dX6_isReserved_51 : decode cX6_isReserved 51 = .ok (.istore_n 1, 1) := by decide +kernel
theorem dX6_isReserved_52 : decode cX6_isReserved 52 = .ok (.iinc 2 1, 3) := by decide +kernel
theorem dX6_isReserved_55 : decode cX6_isReserved 55 = .ok (.goto (-29), 3) := by decide +kernel
theorem dX6_isReserved_58 : decode cX6_isReserved 58 = .ok (.iconst 0, 1) := by decide +kernel
theorem dX6_isReserved_59 : decode cX6_isReserved 59 = .ok (.istore_n 2, 1) := by decide +kernel
theorem dX6_isReserved_60 : decode cX6_isReserved 60 = .ok (.iload_n 2, 1) := by decide +kernel
theorem dX6_isReserved_61 : decode cX6_isReserved 61 = .ok (.bipush 6, 2) := by decide +kernel
theorem dX6_isReserved_63 : decode cX6_isReserved 63 = .ok (.if_icmp .ge 30, 3) := by decide +kernel
theorem dX6_isReserved_66 : decode cX6_isReserved 66 = .ok (.iload_n 1, 1) := by decide +kernel
theorem dX6_isReserved_67 : decode cX6_isReserved 67 = .ok (.ifCond .ne 14, 3) := by decide +kernel
theorem dX6_isReserved_70 : decode cX6_isReserved 70 = .ok (.aload_n 0, 1) := by decide +kernel
theorem dX6_isReserved_71 : decode cX6_isReserved 71 = .ok (.iload_n 2, 1) := by decide +kernel
theorem dX6_isReserved_72 : decode cX6_isReserved 72 = .ok (.invokestatic 121, 3) := by decide +kernel
theorem dX6_isReserved_75 : decode cX6_isReserved 75 = .ok (.invokevirtual 111, 3) := by decide +kernel
theorem dX6_isReserved_78 : decode cX6_isReserved 78 = .ok (.ifCond .eq 7, 3) := by decide +kernel
theorem dX6_isReserved_81 : decode cX6_isReserved 81 = .ok (.iconst 1, 1) := by decide +kernel
theorem dX6_isReserved_82 : decode cX6_isReserved 82 = .ok (.goto 4, 3) := by decide +kernel
theorem dX6_isReserved_85 : decode cX6_isReserved 85 = .ok (.iconst 0, 1) := by decide +kernel
theorem dX6_isReserved_86 : decode cX6_isReserved 86 = .ok (.istore_n 1, 1) := by decide +kernel
theorem dX6_isReserved_87 : decode cX6_isReserved 87 = .ok (.iinc 2 1, 3) := by decide +kernel
theorem dX6_isReserved_90 : decode cX6_isReserved 90 = .ok (.goto (-30), 3) := by decide +kernel
theorem dX6_isReserved_93 : decode cX6_isReserved 93 = .ok (.iload_n 1, 1) := by decide +kernel
theorem dX6_isReserved_94 : decode cX6_isReserved 94 = .ok (.ireturn, 1) := by decide +kernel
theorem dX6_readLine_0 : decode cX6_readLine 0 = .ok (.aload_n 0, 1) := by decide +kernel
theorem dX6_readLine_1 : decode cX6_readLine 1 = .ok (.ldc 109, 2) := by decide +kernel
theorem dX6_readLine_3 : decode cX6_readLine 3 = .ok (.invokevirtual 111, 3) := by decide +kernel
theorem dX6_readLine_6 : decode cX6_readLine 6 = .ok (.ifCond .eq 8, 3) := by decide +kernel
theorem dX6_readLine_9 : decode cX6_readLine 9 = .ok (.aload_n 0, 1) := by decide +kernel
theorem dX6_readLine_10 : decode cX6_readLine 10 = .ok (.invokevirtual 124, 3) := by decide +kernel
theorem dX6_readLine_13 : decode cX6_readLine 13 = .ok (.ireturn, 1) := by decide +kernel
theorem dX6_readLine_14 : decode cX6_readLine 14 = .ok (.aload_n 0, 1) := by decide +kernel
theorem dX6_readLine_15 : decode cX6_readLine 15 = .ok (.ldc 115, 2) := by decide +kernel
theorem dX6_readLine_17 : decode cX6_readLine 17 = .ok (.invokevirtual 111, 3) := by decide +kernel
theorem dX6_readLine_20 : decode cX6_readLine 20 = .ok (.ifCond .eq 8, 3) := by decide +kernel
theorem dX6_readLine_23 : decode cX6_readLine 23 = .ok (.aload_n 0, 1) := by decide +kernel
theorem dX6_readLine_24 : decode cX6_readLine 24 = .ok (.invokevirtual 127, 3) := by decide +kernel
theorem dX6_readLine_27 : decode cX6_readLine 27 = .ok (.ireturn, 1) := by decide +kernel
theorem dX6_readLine_28 : decode cX6_readLine 28 = .ok (.iconst 0, 1) := by decide +kernel
theorem dX6_readLine_29 : decode cX6_readLine 29 = .ok (.istore_n 1, 1) := by decide +kernel
theorem dX6_readLine_30 : decode cX6_readLine 30 = .ok (.iload_n 1, 1) := by decide +kernel
theorem dX6_readLine_31 : decode cX6_readLine 31 = .ok (.iconst 4, 1) := by decide +kernel
theorem dX6_readLine_32 : decode cX6_readLine 32 = .ok (.if_icmp .ge 26, 3) := by decide +kernel
theorem dX6_readLine_35 : decode cX6_readLine 35 = .ok (.aload_n 0, 1) := by decide +kernel
theorem dX6_readLine_36 : decode cX6_readLine 36 = .ok (.iload_n 1, 1) := by decide +kernel
theorem dX6_readLine_37 : decode cX6_readLine 37 = .ok (.invokestatic 117, 3) := by decide +kernel
theorem dX6_readLine_40 : decode cX6_readLine 40 = .ok (.invokevirtual 111, 3) := by decide +kernel
theorem dX6_readLine_43 : decode cX6_readLine 43 = .ok (.ifCond .eq 9, 3) := by decide +kernel
theorem dX6_readLine_46 : decode cX6_readLine 46 = .ok (.aload_n 0, 1) := by decide +kernel
theorem dX6_readLine_47 : decode cX6_readLine 47 = .ok (.iload_n 1, 1) := by decide +kernel
theorem dX6_readLine_48 : decode cX6_readLine 48 = .ok (.invokevirtual 130, 3) := by decide +kernel
theorem dX6_readLine_51 : decode cX6_readLine 51 = .ok (.ireturn, 1) := by decide +kernel
theorem dX6_readLine_52 : decode cX6_readLine 52 = .ok (.iinc 1 1, 3) := by decide +kernel
theorem dX6_readLine_55 : decode cX6_readLine 55 = .ok (.goto (-25), 3) := by decide +kernel
theorem dX6_readLine_58 : decode cX6_readLine 58 = .ok (.aload_n 0, 1) := by decide +kernel
theorem dX6_readLine_59 : decode cX6_readLine 59 = .ok (.iconst 1, 1) := by decide +kernel
theorem dX6_readLine_60 : decode cX6_readLine 60 = .ok (.invokevirtual 50, 3) := by decide +kernel
theorem dX6_readLine_63 : decode cX6_readLine 63 = .ok (.ireturn, 1) := by decide +kernel
theorem dX6_readService_0 : decode cX6_readService 0 = .ok (.aload_n 0, 1) := by decide +kernel
theorem dX6_readService_1 : decode cX6_readService 1 = .ok (.getfield 31, 3) := by decide +kernel
theorem dX6_readService_4 : decode cX6_readService 4 = .ok (.getfield 54, 3) := by decide +kernel
theorem dX6_readService_7 : decode cX6_readService 7 = .ok (.istore_n 1, 1) := by decide +kernel
theorem dX6_readService_8 : decode cX6_readService 8 = .ok (.iload_n 1, 1) := by decide +kernel
theorem dX6_readService_9 : decode cX6_readService 9 = .ok (.iconst 4, 1) := by decide +kernel
theorem dX6_readService_10 : decode cX6_readService 10 = .ok (.if_icmp .ge 13, 3) := by decide +kernel
theorem dX6_readService_13 : decode cX6_readService 13 = .ok (.aload_n 0, 1) := by decide +kernel
theorem dX6_readService_14 : decode cX6_readService 14 = .ok (.getfield 31, 3) := by decide +kernel
theorem dX6_readService_17 : decode cX6_readService 17 = .ok (.getfield 133, 3) := by decide +kernel
theorem dX6_readService_20 : decode cX6_readService 20 = .ok (.ifCond .le 9, 3) := by decide +kernel
theorem dX6_readService_23 : decode cX6_readService 23 = .ok (.aload_n 0, 1) := by decide +kernel
theorem dX6_readService_24 : decode cX6_readService 24 = .ok (.iconst 4, 1) := by decide +kernel
theorem dX6_readService_25 : decode cX6_readService 25 = .ok (.invokevirtual 50, 3) := by decide +kernel
theorem dX6_readService_28 : decode cX6_readService 28 = .ok (.ireturn, 1) := by decide +kernel
theorem dX6_readService_29 : decode cX6_readService 29 = .ok (.aload_n 0, 1) := by decide +kernel
theorem dX6_readService_30 : decode cX6_readService 30 = .ok (.iload_n 1, 1) := by decide +kernel
theorem dX6_readService_31 : decode cX6_readService 31 = .ok (.invokevirtual 136, 3) := by decide +kernel
theorem dX6_readService_34 : decode cX6_readService 34 = .ok (.ifCond .ne 5, 3) := by decide +kernel
theorem dX6_readService_37 : decode cX6_readService 37 = .ok (.iconst 0, 1) := by decide +kernel
theorem dX6_readService_38 : decode cX6_readService 38 = .ok (.ireturn, 1) := by decide +kernel
theorem dX6_readService_39 : decode cX6_readService 39 = .ok (.aload_n 0, 1) := by decide +kernel
theorem dX6_readService_40 : decode cX6_readService 40 = .ok (.getfield 31, 3) := by decide +kernel
theorem dX6_readService_43 : decode cX6_readService 43 = .ok (.dup, 1) := by decide +kernel
theorem dX6_readService_44 : decode cX6_readService 44 = .ok (.getfield 54, 3) := by decide +kernel
theorem dX6_readService_47 : decode cX6_readService 47 = .ok (.iconst 1, 1) := by decide +kernel
theorem dX6_readService_48 : decode cX6_readService 48 = .ok (.iadd, 1) := by decide +kernel
theorem dX6_readService_49 : decode cX6_readService 49 = .ok (.putfield 54, 3) := by decide +kernel
theorem dX6_readService_52 : decode cX6_readService 52 = .ok (.aload_n 0, 1) := by decide +kernel
theorem dX6_readService_53 : decode cX6_readService 53 = .ok (.iload_n 1, 1) := by decide +kernel
theorem dX6_readService_54 : decode cX6_readService 54 = .ok (.iconst 0, 1) := by decide +kernel
theorem dX6_readService_55 : decode cX6_readService 55 = .ok (.iconst 3, 1) := by decide +kernel
theorem dX6_readService_56 : decode cX6_readService 56 = .ok (.invokevirtual 139, 3) := by decide +kernel
theorem dX6_readService_59 : decode cX6_readService 59 = .ok (.ifCond .ne 5, 3) := by decide +kernel
theorem dX6_readService_62 : decode cX6_readService 62 = .ok (.iconst 0, 1) := by decide +kernel
theorem dX6_readService_63 : decode cX6_readService 63 = .ok (.ireturn, 1) := by decide +kernel
theorem dX6_readService_64 : decode cX6_readService 64 = .ok (.aload_n 0, 1) := by decide +kernel
theorem dX6_readService_65 : decode cX6_readService 65 = .ok (.ldc 105, 2) := by decide +kernel
theorem dX6_readService_67 : decode cX6_readService 67 = .ok (.invokevirtual 111, 3) := by decide +kernel
theorem dX6_readService_70 : decode cX6_readService 70 = .ok (.ifCond .eq 13, 3) := by decide +kernel
theorem dX6_readService_73 : decode cX6_readService 73 = .ok (.aload_n 0, 1) := by decide +kernel
theorem dX6_readService_74 : decode cX6_readService 74 = .ok (.iload_n 1, 1) := by decide +kernel
theorem dX6_readService_75 : decode cX6_readService 75 = .ok (.iconst 4, 1) := by decide +kernel
theorem dX6_readService_76 : decode cX6_readService 76 = .ok (.iconst 5, 1) := by decide +kernel
theorem dX6_readService_77 : decode cX6_readService 77 = .ok (.invokevirtual 139, 3) := by decide +kernel
theorem dX6_readService_80 : decode cX6_readService 80 = .ok (.ifCond .eq 7, 3) := by decide +kernel
theorem dX6_readService_83 : decode cX6_readService 83 = .ok (.iconst 1, 1) := by decide +kernel
theorem dX6_readService_84 : decode cX6_readService 84 = .ok (.goto 4, 3) := by decide +kernel
theorem dX6_readService_87 : decode cX6_readService 87 = .ok (.iconst 0, 1) := by decide +kernel
theorem dX6_readService_88 : decode cX6_readService 88 = .ok (.ireturn, 1) := by decide +kernel
theorem dX6_readValues_0 : decode cX6_readValues 0 = .ok (.iload_n 2, 1) := by decide +kernel
theorem dX6_readValues_1 : decode cX6_readValues 1 = .ok (.istore 4, 2) := by decide +kernel
theorem dX6_readValues_3 : decode cX6_readValues 3 = .ok (.iload 4, 2) := by decide +kernel
theorem dX6_readValues_5 : decode cX6_readValues 5 = .ok (.iload_n 3, 1) := by decide +kernel
theorem dX6_readValues_6 : decode cX6_readValues 6 = .ok (.if_icmp .gt 67, 3) := by decide +kernel
theorem dX6_readValues_9 : decode cX6_readValues 9 = .ok (.aload_n 0, 1) := by decide +kernel
theorem dX6_readValues_10 : decode cX6_readValues 10 = .ok (.iload 4, 2) := by decide +kernel
theorem dX6_readValues_12 : decode cX6_readValues 12 = .ok (.invokestatic 121, 3) := by decide +kernel
theorem dX6_readValues_15 : decode cX6_readValues 15 = .ok (.invokevirtual 111, 3) := by decide +kernel
theorem dX6_readValues_18 : decode cX6_readValues 18 = .ok (.ifCond .ne 9, 3) := by decide +kernel
theorem dX6_readValues_21 : decode cX6_readValues 21 = .ok (.aload_n 0, 1) := by decide +kernel
theorem dX6_readValues_22 : decode cX6_readValues 22 = .ok (.iconst 1, 1) := by decide +kernel
theorem dX6_readValues_23 : decode cX6_readValues 23 = .ok (.invokevirtual 50, 3) := by decide +kernel
theorem dX6_readValues_26 : decode cX6_readValues 26 = .ok (.ireturn, 1) := by decide +kernel
theorem dX6_readValues_27 : decode cX6_readValues 27 = .ok (.aload_n 0, 1) := by decide +kernel
theorem dX6_readValues_28 : decode cX6_readValues 28 = .ok (.invokevirtual 40, 3) := by decide +kernel
theorem dX6_readValues_31 : decode cX6_readValues 31 = .ok (.aload_n 0, 1) := by decide +kernel
theorem dX6_readValues_32 : decode cX6_readValues 32 = .ok (.iload 4, 2) := by decide +kernel
theorem dX6_readValues_34 : decode cX6_readValues 34 = .ok (.invokestatic 143, 3) := by decide +kernel
theorem dX6_readValues_37 : decode cX6_readValues 37 = .ok (.invokevirtual 147, 3) := by decide +kernel
theorem dX6_readValues_40 : decode cX6_readValues 40 = .ok (.ifCond .ne 5, 3) := by decide +kernel
theorem dX6_readValues_43 : decode cX6_readValues 43 = .ok (.iconst 0, 1) := by decide +kernel
theorem dX6_readValues_44 : decode cX6_readValues 44 = .ok (.ireturn, 1) := by decide +kernel
theorem dX6_readValues_45 : decode cX6_readValues 45 = .ok (.aload_n 0, 1) := by decide +kernel
theorem dX6_readValues_46 : decode cX6_readValues 46 = .ok (.getfield 31, 3) := by decide +kernel
theorem dX6_readValues_49 : decode cX6_readValues 49 = .ok (.getfield 150, 3) := by decide +kernel
theorem dX6_readValues_52 : decode cX6_readValues 52 = .ok (.iload 4, 2) := by decide +kernel
theorem dX6_readValues_54 : decode cX6_readValues 54 = .ok (.iconst 4, 1) := by decide +kernel
theorem dX6_readValues_55 : decode cX6_readValues 55 = .ok (.imul, 1) := by decide +kernel
theorem dX6_readValues_56 : decode cX6_readValues 56 = .ok (.iload_n 1, 1) := by decide +kernel
theorem dX6_readValues_57 : decode cX6_readValues 57 = .ok (.iadd, 1) := by decide +kernel
theorem dX6_readValues_58 : decode cX6_readValues 58 = .ok (.aload_n 0, 1) := by decide +kernel
theorem dX6_readValues_59 : decode cX6_readValues 59 = .ok (.getfield 76, 3) := by decide +kernel
theorem dX6_readValues_62 : decode cX6_readValues 62 = .ok (.iastore, 1) := by decide +kernel
theorem dX6_readValues_63 : decode cX6_readValues 63 = .ok (.aload_n 0, 1) := by decide +kernel
theorem dX6_readValues_64 : decode cX6_readValues 64 = .ok (.invokevirtual 40, 3) := by decide +kernel
theorem dX6_readValues_67 : decode cX6_readValues 67 = .ok (.iinc 4 1, 3) := by decide +kernel
theorem dX6_readValues_70 : decode cX6_readValues 70 = .ok (.goto (-67), 3) := by decide +kernel
theorem dX6_readValues_73 : decode cX6_readValues 73 = .ok (.iconst 1, 1) := by decide +kernel
theorem dX6_readValues_74 : decode cX6_readValues 74 = .ok (.ireturn, 1) := by decide +kernel
theorem dX6_readBuyer_0 : decode cX6_readBuyer 0 = .ok (.aload_n 0, 1) := by decide +kernel
theorem dX6_readBuyer_1 : decode cX6_readBuyer 1 = .ok (.getfield 31, 3) := by decide +kernel
theorem dX6_readBuyer_4 : decode cX6_readBuyer 4 = .ok (.getfield 133, 3) := by decide +kernel
theorem dX6_readBuyer_7 : decode cX6_readBuyer 7 = .ok (.istore_n 1, 1) := by decide +kernel
theorem dX6_readBuyer_8 : decode cX6_readBuyer 8 = .ok (.iload_n 1, 1) := by decide +kernel
theorem dX6_readBuyer_9 : decode cX6_readBuyer 9 = .ok (.iconst 4, 1) := by decide +kernel
theorem dX6_readBuyer_10 : decode cX6_readBuyer 10 = .ok (.if_icmp .ge 13, 3) := by decide +kernel
theorem dX6_readBuyer_13 : decode cX6_readBuyer 13 = .ok (.aload_n 0, 1) := by decide +kernel
theorem dX6_readBuyer_14 : decode cX6_readBuyer 14 = .ok (.getfield 31, 3) := by decide +kernel
theorem dX6_readBuyer_17 : decode cX6_readBuyer 17 = .ok (.getfield 54, 3) := by decide +kernel
theorem dX6_readBuyer_20 : decode cX6_readBuyer 20 = .ok (.ifCond .ne 9, 3) := by decide +kernel
theorem dX6_readBuyer_23 : decode cX6_readBuyer 23 = .ok (.aload_n 0, 1) := by decide +kernel
theorem dX6_readBuyer_24 : decode cX6_readBuyer 24 = .ok (.iconst 4, 1) := by decide +kernel
theorem dX6_readBuyer_25 : decode cX6_readBuyer 25 = .ok (.invokevirtual 50, 3) := by decide +kernel
theorem dX6_readBuyer_28 : decode cX6_readBuyer 28 = .ok (.ireturn, 1) := by decide +kernel
theorem dX6_readBuyer_29 : decode cX6_readBuyer 29 = .ok (.aload_n 0, 1) := by decide +kernel
theorem dX6_readBuyer_30 : decode cX6_readBuyer 30 = .ok (.iconst 4, 1) := by decide +kernel
theorem dX6_readBuyer_31 : decode cX6_readBuyer 31 = .ok (.iload_n 1, 1) := by decide +kernel
theorem dX6_readBuyer_32 : decode cX6_readBuyer 32 = .ok (.iadd, 1) := by decide +kernel
theorem dX6_readBuyer_33 : decode cX6_readBuyer 33 = .ok (.invokevirtual 136, 3) := by decide +kernel
theorem dX6_readBuyer_36 : decode cX6_readBuyer 36 = .ok (.ifCond .ne 5, 3) := by decide +kernel
theorem dX6_readBuyer_39 : decode cX6_readBuyer 39 = .ok (.iconst 0, 1) := by decide +kernel
theorem dX6_readBuyer_40 : decode cX6_readBuyer 40 = .ok (.ireturn, 1) := by decide +kernel
theorem dX6_readBuyer_41 : decode cX6_readBuyer 41 = .ok (.aload_n 0, 1) := by decide +kernel
theorem dX6_readBuyer_42 : decode cX6_readBuyer 42 = .ok (.getfield 31, 3) := by decide +kernel
theorem dX6_readBuyer_45 : decode cX6_readBuyer 45 = .ok (.dup, 1) := by decide +kernel
theorem dX6_readBuyer_46 : decode cX6_readBuyer 46 = .ok (.getfield 133, 3) := by decide +kernel
theorem dX6_readBuyer_49 : decode cX6_readBuyer 49 = .ok (.iconst 1, 1) := by decide +kernel
theorem dX6_readBuyer_50 : decode cX6_readBuyer 50 = .ok (.iadd, 1) := by decide +kernel
theorem dX6_readBuyer_51 : decode cX6_readBuyer 51 = .ok (.putfield 133, 3) := by decide +kernel
theorem dX6_readBuyer_54 : decode cX6_readBuyer 54 = .ok (.iconst 0, 1) := by decide +kernel
theorem dX6_readBuyer_55 : decode cX6_readBuyer 55 = .ok (.istore_n 2, 1) := by decide +kernel
theorem dX6_readBuyer_56 : decode cX6_readBuyer 56 = .ok (.iload_n 2, 1) := by decide +kernel
theorem dX6_readBuyer_57 : decode cX6_readBuyer 57 = .ok (.aload_n 0, 1) := by decide +kernel
theorem dX6_readBuyer_58 : decode cX6_readBuyer 58 = .ok (.getfield 31, 3) := by decide +kernel
theorem dX6_readBuyer_61 : decode cX6_readBuyer 61 = .ok (.getfield 54, 3) := by decide +kernel
theorem dX6_readBuyer_64 : decode cX6_readBuyer 64 = .ok (.if_icmp .ge 63, 3) := by decide +kernel
theorem dX6_readBuyer_67 : decode cX6_readBuyer 67 = .ok (.iload_n 2, 1) := by decide +kernel
theorem dX6_readBuyer_68 : decode cX6_readBuyer 68 = .ok (.ifCond .le 21, 3) := by decide +kernel
theorem dX6_readBuyer_71 : decode cX6_readBuyer 71 = .ok (.aload_n 0, 1) := by decide +kernel
theorem dX6_readBuyer_72 : decode cX6_readBuyer 72 = .ok (.getfield 47, 3) := by decide +kernel
theorem dX6_readBuyer_75 : decode cX6_readBuyer 75 = .ok (.iconst 4, 1) := by decide +kernel
theorem dX6_readBuyer_76 : decode cX6_readBuyer 76 = .ok (.if_icmp .eq 9, 3) := by decide +kernel
theorem dX6_readBuyer_79 : decode cX6_readBuyer 79 = .ok (.aload_n 0, 1) := by decide +kernel
theorem dX6_readBuyer_80 : decode cX6_readBuyer 80 = .ok (.iconst 1, 1) := by decide +kernel
theorem dX6_readBuyer_81 : decode cX6_readBuyer 81 = .ok (.invokevirtual 50, 3) := by decide +kernel
theorem dX6_readBuyer_84 : decode cX6_readBuyer 84 = .ok (.ireturn, 1) := by decide +kernel
theorem dX6_readBuyer_85 : decode cX6_readBuyer 85 = .ok (.aload_n 0, 1) := by decide +kernel
theorem dX6_readBuyer_86 : decode cX6_readBuyer 86 = .ok (.invokevirtual 40, 3) := by decide +kernel
theorem dX6_readBuyer_89 : decode cX6_readBuyer 89 = .ok (.aload_n 0, 1) := by decide +kernel
theorem dX6_readBuyer_90 : decode cX6_readBuyer 90 = .ok (.bipush 99, 2) := by decide +kernel
theorem dX6_readBuyer_92 : decode cX6_readBuyer 92 = .ok (.invokevirtual 147, 3) := by decide +kernel
theorem dX6_readBuyer_95 : decode cX6_readBuyer 95 = .ok (.ifCond .ne 5, 3) := by decide +kernel
theorem dX6_readBuyer_98 : decode cX6_readBuyer 98 = .ok (.iconst 0, 1) := by decide +kernel
theorem dX6_readBuyer_99 : decode cX6_readBuyer 99 = .ok (.ireturn, 1) := by decide +kernel
theorem dX6_readBuyer_100 : decode cX6_readBuyer 100 = .ok (.aload_n 0, 1) := by decide +kernel
theorem dX6_readBuyer_101 : decode cX6_readBuyer 101 = .ok (.getfield 31, 3) := by decide +kernel
theorem dX6_readBuyer_104 : decode cX6_readBuyer 104 = .ok (.getfield 153, 3) := by decide +kernel
theorem dX6_readBuyer_107 : decode cX6_readBuyer 107 = .ok (.iload_n 1, 1) := by decide +kernel
theorem dX6_readBuyer_108 : decode cX6_readBuyer 108 = .ok (.iconst 4, 1) := by decide +kernel
theorem dX6_readBuyer_109 : decode cX6_readBuyer 109 = .ok (.imul, 1) := by decide +kernel
theorem dX6_readBuyer_110 : decode cX6_readBuyer 110 = .ok (.iload_n 2, 1) := by decide +kernel
theorem dX6_readBuyer_111 : decode cX6_readBuyer 111 = .ok (.iadd, 1) := by decide +kernel
theorem dX6_readBuyer_112 : decode cX6_readBuyer 112 = .ok (.aload_n 0, 1) := by decide +kernel
theorem dX6_readBuyer_113 : decode cX6_readBuyer 113 = .ok (.getfield 76, 3) := by decide +kernel
theorem dX6_readBuyer_116 : decode cX6_readBuyer 116 = .ok (.iastore, 1) := by decide +kernel
theorem dX6_readBuyer_117 : decode cX6_readBuyer 117 = .ok (.aload_n 0, 1) := by decide +kernel
theorem dX6_readBuyer_118 : decode cX6_readBuyer 118 = .ok (.invokevirtual 40, 3) := by decide +kernel
theorem dX6_readBuyer_121 : decode cX6_readBuyer 121 = .ok (.iinc 2 1, 3) := by decide +kernel
theorem dX6_readBuyer_124 : decode cX6_readBuyer 124 = .ok (.goto (-68), 3) := by decide +kernel
theorem dX6_readBuyer_127 : decode cX6_readBuyer 127 = .ok (.iconst 1, 1) := by decide +kernel
theorem dX6_readBuyer_128 : decode cX6_readBuyer 128 = .ok (.ireturn, 1) := by decide +kernel
theorem dX6_readRule_0 : decode cX6_readRule 0 = .ok (.aload_n 0, 1) := by decide +kernel
theorem dX6_readRule_1 : decode cX6_readRule 1 = .ok (.getfield 22, 3) := by decide +kernel
theorem dX6_readRule_4 : decode cX6_readRule 4 = .ok (.iload_n 1, 1) := by decide +kernel
theorem dX6_readRule_5 : decode cX6_readRule 5 = .ok (.ishr, 1) := by decide +kernel
theorem dX6_readRule_6 : decode cX6_readRule 6 = .ok (.iconst 1, 1) := by decide +kernel
theorem dX6_readRule_7 : decode cX6_readRule 7 = .ok (.iand, 1) := by decide +kernel
theorem dX6_readRule_8 : decode cX6_readRule 8 = .ok (.ifCond .eq 9, 3) := by decide +kernel
theorem dX6_readRule_11 : decode cX6_readRule 11 = .ok (.aload_n 0, 1) := by decide +kernel
theorem dX6_readRule_12 : decode cX6_readRule 12 = .ok (.iconst 3, 1) := by decide +kernel
theorem dX6_readRule_13 : decode cX6_readRule 13 = .ok (.invokevirtual 50, 3) := by decide +kernel
theorem dX6_readRule_16 : decode cX6_readRule 16 = .ok (.ireturn, 1) := by decide +kernel
theorem dX6_readRule_17 : decode cX6_readRule 17 = .ok (.aload_n 0, 1) := by decide +kernel
theorem dX6_readRule_18 : decode cX6_readRule 18 = .ok (.dup, 1) := by decide +kernel
theorem dX6_readRule_19 : decode cX6_readRule 19 = .ok (.getfield 22, 3) := by decide +kernel
theorem dX6_readRule_22 : decode cX6_readRule 22 = .ok (.iconst 1, 1) := by decide +kernel
theorem dX6_readRule_23 : decode cX6_readRule 23 = .ok (.iload_n 1, 1) := by decide +kernel
theorem dX6_readRule_24 : decode cX6_readRule 24 = .ok (.ishl, 1) := by decide +kernel
theorem dX6_readRule_25 : decode cX6_readRule 25 = .ok (.ior, 1) := by decide +kernel
theorem dX6_readRule_26 : decode cX6_readRule 26 = .ok (.putfield 22, 3) := by decide +kernel
theorem dX6_readRule_29 : decode cX6_readRule 29 = .ok (.aload_n 0, 1) := by decide +kernel
theorem dX6_readRule_30 : decode cX6_readRule 30 = .ok (.invokevirtual 40, 3) := by decide +kernel
theorem dX6_readRule_33 : decode cX6_readRule 33 = .ok (.aload_n 0, 1) := by decide +kernel
theorem dX6_readRule_34 : decode cX6_readRule 34 = .ok (.iload_n 1, 1) := by decide +kernel
theorem dX6_readRule_35 : decode cX6_readRule 35 = .ok (.invokestatic 156, 3) := by decide +kernel
theorem dX6_readRule_38 : decode cX6_readRule 38 = .ok (.invokevirtual 147, 3) := by decide +kernel
theorem dX6_readRule_41 : decode cX6_readRule 41 = .ok (.ifCond .ne 5, 3) := by decide +kernel
theorem dX6_readRule_44 : decode cX6_readRule 44 = .ok (.iconst 0, 1) := by decide +kernel
theorem dX6_readRule_45 : decode cX6_readRule 45 = .ok (.ireturn, 1) := by decide +kernel
theorem dX6_readRule_46 : decode cX6_readRule 46 = .ok (.aload_n 0, 1) := by decide +kernel
theorem dX6_readRule_47 : decode cX6_readRule 47 = .ok (.getfield 31, 3) := by decide +kernel
theorem dX6_readRule_50 : decode cX6_readRule 50 = .ok (.getfield 159, 3) := by decide +kernel
theorem dX6_readRule_53 : decode cX6_readRule 53 = .ok (.iload_n 1, 1) := by decide +kernel
theorem dX6_readRule_54 : decode cX6_readRule 54 = .ok (.aload_n 0, 1) := by decide +kernel
theorem dX6_readRule_55 : decode cX6_readRule 55 = .ok (.getfield 76, 3) := by decide +kernel
theorem dX6_readRule_58 : decode cX6_readRule 58 = .ok (.iastore, 1) := by decide +kernel
theorem dX6_readRule_59 : decode cX6_readRule 59 = .ok (.aload_n 0, 1) := by decide +kernel
theorem dX6_readRule_60 : decode cX6_readRule 60 = .ok (.invokevirtual 40, 3) := by decide +kernel
theorem dX6_readRule_63 : decode cX6_readRule 63 = .ok (.iconst 1, 1) := by decide +kernel
theorem dX6_readRule_64 : decode cX6_readRule 64 = .ok (.ireturn, 1) := by decide +kernel
theorem dX6_readName_0 : decode cX6_readName 0 = .ok (.aload_n 0, 1) := by decide +kernel
theorem dX6_readName_1 : decode cX6_readName 1 = .ok (.invokevirtual 40, 3) := by decide +kernel
theorem dX6_readName_4 : decode cX6_readName 4 = .ok (.aload_n 0, 1) := by decide +kernel
theorem dX6_readName_5 : decode cX6_readName 5 = .ok (.getfield 47, 3) := by decide +kernel
theorem dX6_readName_8 : decode cX6_readName 8 = .ok (.iconst 1, 1) := by decide +kernel
theorem dX6_readName_9 : decode cX6_readName 9 = .ok (.if_icmp .ne 10, 3) := by decide +kernel
theorem dX6_readName_12 : decode cX6_readName 12 = .ok (.aload_n 0, 1) := by decide +kernel
theorem dX6_readName_13 : decode cX6_readName 13 = .ok (.invokevirtual 162, 3) := by decide +kernel
theorem dX6_readName_16 : decode cX6_readName 16 = .ok (.ifCond .eq 9, 3) := by decide +kernel
theorem dX6_readName_19 : decode cX6_readName 19 = .ok (.aload_n 0, 1) := by decide +kernel
theorem dX6_readName_20 : decode cX6_readName 20 = .ok (.iconst 1, 1) := by decide +kernel
theorem dX6_readName_21 : decode cX6_readName 21 = .ok (.invokevirtual 50, 3) := by decide +kernel
theorem dX6_readName_24 : decode cX6_readName 24 = .ok (.ireturn, 1) := by decide +kernel
theorem dX6_readName_25 : decode cX6_readName 25 = .ok (.aload_n 0, 1) := by decide +kernel
theorem dX6_readName_26 : decode cX6_readName 26 = .ok (.getfield 31, 3) := by decide +kernel
theorem dX6_readName_29 : decode cX6_readName 29 = .ok (.aload_n 0, 1) := by decide +kernel
theorem dX6_readName_30 : decode cX6_readName 30 = .ok (.getfield 72, 3) := by decide +kernel
theorem dX6_readName_33 : decode cX6_readName 33 = .ok (.invokevirtual 165, 3) := by decide +kernel
theorem dX6_readName_36 : decode cX6_readName 36 = .ok (.ifCond .eq 9, 3) := by decide +kernel
theorem dX6_readName_39 : decode cX6_readName 39 = .ok (.aload_n 0, 1) := by decide +kernel
theorem dX6_readName_40 : decode cX6_readName 40 = .ok (.iconst 3, 1) := by decide +kernel
theorem dX6_readName_41 : decode cX6_readName 41 = .ok (.invokevirtual 50, 3) := by decide +kernel
theorem dX6_readName_44 : decode cX6_readName 44 = .ok (.ireturn, 1) := by decide +kernel
theorem dX6_readName_45 : decode cX6_readName 45 = .ok (.aload_n 0, 1) := by decide +kernel
theorem dX6_readName_46 : decode cX6_readName 46 = .ok (.getfield 31, 3) := by decide +kernel
theorem dX6_readName_49 : decode cX6_readName 49 = .ok (.getfield 169, 3) := by decide +kernel
theorem dX6_readName_52 : decode cX6_readName 52 = .ok (.iload_n 1, 1) := by decide +kernel
theorem dX6_readName_53 : decode cX6_readName 53 = .ok (.aload_n 0, 1) := by decide +kernel
theorem dX6_readName_54 : decode cX6_readName 54 = .ok (.getfield 72, 3) := by decide +kernel
theorem dX6_readName_57 : decode cX6_readName 57 = .ok (.lastore, 1) := by decide +kernel
theorem dX6_readName_58 : decode cX6_readName 58 = .ok (.aload_n 0, 1) := by decide +kernel
theorem dX6_readName_59 : decode cX6_readName 59 = .ok (.invokevirtual 40, 3) := by decide +kernel
theorem dX6_readName_62 : decode cX6_readName 62 = .ok (.iconst 1, 1) := by decide +kernel
theorem dX6_readName_63 : decode cX6_readName 63 = .ok (.ireturn, 1) := by decide +kernel
theorem dX6_readWhole_0 : decode cX6_readWhole 0 = .ok (.aload_n 0, 1) := by decide +kernel
theorem dX6_readWhole_1 : decode cX6_readWhole 1 = .ok (.getfield 47, 3) := by decide +kernel
theorem dX6_readWhole_4 : decode cX6_readWhole 4 = .ok (.iconst 2, 1) := by decide +kernel
theorem dX6_readWhole_5 : decode cX6_readWhole 5 = .ok (.if_icmp .eq 9, 3) := by decide +kernel
theorem dX6_readWhole_8 : decode cX6_readWhole 8 = .ok (.aload_n 0, 1) := by decide +kernel
theorem dX6_readWhole_9 : decode cX6_readWhole 9 = .ok (.iconst 1, 1) := by decide +kernel
theorem dX6_readWhole_10 : decode cX6_readWhole 10 = .ok (.invokevirtual 50, 3) := by decide +kernel
theorem dX6_readWhole_13 : decode cX6_readWhole 13 = .ok (.ireturn, 1) := by decide +kernel
theorem dX6_readWhole_14 : decode cX6_readWhole 14 = .ok (.aload_n 0, 1) := by decide +kernel
theorem dX6_readWhole_15 : decode cX6_readWhole 15 = .ok (.getfield 76, 3) := by decide +kernel
theorem dX6_readWhole_18 : decode cX6_readWhole 18 = .ok (.iload_n 1, 1) := by decide +kernel
theorem dX6_readWhole_19 : decode cX6_readWhole 19 = .ok (.if_icmp .le 11, 3) := by decide +kernel
theorem dX6_readWhole_22 : decode cX6_readWhole 22 = .ok (.aload_n 0, 1) := by decide +kernel
theorem dX6_readWhole_23 : decode cX6_readWhole 23 = .ok (.iconst 2, 1) := by decide +kernel
theorem dX6_readWhole_24 : decode cX6_readWhole 24 = .ok (.invokevirtual 50, 3) := by decide +kernel
theorem dX6_readWhole_27 : decode cX6_readWhole 27 = .ok (.ifCond .eq 7, 3) := by decide +kernel
theorem dX6_readWhole_30 : decode cX6_readWhole 30 = .ok (.iconst 1, 1) := by decide +kernel
theorem dX6_readWhole_31 : decode cX6_readWhole 31 = .ok (.goto 4, 3) := by decide +kernel
theorem dX6_readWhole_34 : decode cX6_readWhole 34 = .ok (.iconst 0, 1) := by decide +kernel
theorem dX6_readWhole_35 : decode cX6_readWhole 35 = .ok (.ireturn, 1) := by decide +kernel
theorem dX7_init_0 : decode cX7_init 0 = .ok (.aload_n 0, 1) := by decide +kernel
theorem dX7_init_1 : decode cX7_init 1 = .ok (.invokespecial 3, 3) := by decide +kernel
theorem dX7_init_4 : decode cX7_init 4 = .ok (.aload_n 0, 1) := by decide +kernel
theorem dX7_init_5 : decode cX7_init 5 = .ok (.iconst 4, 1) := by decide +kernel
theorem dX7_init_6 : decode cX7_init 6 = .ok (.newarray .int, 2) := by decide +kernel
theorem dX7_init_8 : decode cX7_init 8 = .ok (.putfield 9, 3) := by decide +kernel
theorem dX7_init_11 : decode cX7_init 11 = .ok (.return_, 1) := by decide +kernel
theorem dX8_init_0 : decode cX8_init 0 = .ok (.aload_n 0, 1) := by decide +kernel
theorem dX8_init_1 : decode cX8_init 1 = .ok (.invokespecial 5, 3) := by decide +kernel
theorem dX8_init_4 : decode cX8_init 4 = .ok (.aload_n 0, 1) := by decide +kernel
theorem dX8_init_5 : decode cX8_init 5 = .ok (.bipush 20, 2) := by decide +kernel
theorem dX8_init_7 : decode cX8_init 7 = .ok (.newarray .int, 2) := by decide +kernel
theorem dX8_init_9 : decode cX8_init 9 = .ok (.putfield 11, 3) := by decide +kernel
theorem dX8_init_12 : decode cX8_init 12 = .ok (.aload_n 0, 1) := by decide +kernel
theorem dX8_init_13 : decode cX8_init 13 = .ok (.iconst 5, 1) := by decide +kernel
theorem dX8_init_14 : decode cX8_init 14 = .ok (.newarray .int, 2) := by decide +kernel
theorem dX8_init_16 : decode cX8_init 16 = .ok (.putfield 15, 3) := by decide +kernel
theorem dX8_init_19 : decode cX8_init 19 = .ok (.aload_n 0, 1) := by decide +kernel
theorem dX8_init_20 : decode cX8_init 20 = .ok (.iconst 4, 1) := by decide +kernel
theorem dX8_init_21 : decode cX8_init 21 = .ok (.newarray .int, 2) := by decide +kernel
theorem dX8_init_23 : decode cX8_init 23 = .ok (.putfield 18, 3) := by decide +kernel
theorem dX8_init_26 : decode cX8_init 26 = .ok (.aload_n 0, 1) := by decide +kernel
theorem dX8_init_27 : decode cX8_init 27 = .ok (.iconst 4, 1) := by decide +kernel
theorem dX8_init_28 : decode cX8_init 28 = .ok (.newarray .int, 2) := by decide +kernel
theorem dX8_init_30 : decode cX8_init 30 = .ok (.putfield 21, 3) := by decide +kernel
theorem dX8_init_33 : decode cX8_init 33 = .ok (.aload_n 0, 1) := by decide +kernel
theorem dX8_init_34 : decode cX8_init 34 = .ok (.iconst 4, 1) := by decide +kernel
theorem dX8_init_35 : decode cX8_init 35 = .ok (.newarray .int, 2) := by decide +kernel
theorem dX8_init_37 : decode cX8_init 37 = .ok (.putfield 24, 3) := by decide +kernel
theorem dX8_init_40 : decode cX8_init 40 = .ok (.aload_n 0, 1) := by decide +kernel
theorem dX8_init_41 : decode cX8_init 41 = .ok (.bipush 84, 2) := by decide +kernel
theorem dX8_init_43 : decode cX8_init 43 = .ok (.newarray .int, 2) := by decide +kernel
theorem dX8_init_45 : decode cX8_init 45 = .ok (.putfield 27, 3) := by decide +kernel
theorem dX8_init_48 : decode cX8_init 48 = .ok (.aload_n 0, 1) := by decide +kernel
theorem dX8_init_49 : decode cX8_init 49 = .ok (.bipush 84, 2) := by decide +kernel
theorem dX8_init_51 : decode cX8_init 51 = .ok (.newarray .int, 2) := by decide +kernel
theorem dX8_init_53 : decode cX8_init 53 = .ok (.putfield 30, 3) := by decide +kernel
theorem dX8_init_56 : decode cX8_init 56 = .ok (.aload_n 0, 1) := by decide +kernel
theorem dX8_init_57 : decode cX8_init 57 = .ok (.bipush 84, 2) := by decide +kernel
theorem dX8_init_59 : decode cX8_init 59 = .ok (.newarray .int, 2) := by decide +kernel
theorem dX8_init_61 : decode cX8_init 61 = .ok (.putfield 33, 3) := by decide +kernel
theorem dX8_init_64 : decode cX8_init 64 = .ok (.aload_n 0, 1) := by decide +kernel
theorem dX8_init_65 : decode cX8_init 65 = .ok (.iconst 4, 1) := by decide +kernel
theorem dX8_init_66 : decode cX8_init 66 = .ok (.newarray .int, 2) := by decide +kernel
theorem dX8_init_68 : decode cX8_init 68 = .ok (.putfield 36, 3) := by decide +kernel
theorem dX8_init_71 : decode cX8_init 71 = .ok (.aload_n 0, 1) := by decide +kernel
theorem dX8_init_72 : decode cX8_init 72 = .ok (.iconst 4, 1) := by decide +kernel
theorem dX8_init_73 : decode cX8_init 73 = .ok (.newarray .int, 2) := by decide +kernel
theorem dX8_init_75 : decode cX8_init 75 = .ok (.putfield 39, 3) := by decide +kernel
theorem dX8_init_78 : decode cX8_init 78 = .ok (.aload_n 0, 1) := by decide +kernel
theorem dX8_init_79 : decode cX8_init 79 = .ok (.iconst 5, 1) := by decide +kernel
theorem dX8_init_80 : decode cX8_init 80 = .ok (.newarray .int, 2) := by decide +kernel
theorem dX8_init_82 : decode cX8_init 82 = .ok (.putfield 42, 3) := by decide +kernel
theorem dX8_init_85 : decode cX8_init 85 = .ok (.return_, 1) := by decide +kernel
theorem dX8_begin_0 : decode cX8_begin 0 = .ok (.aload_n 0, 1) := by decide +kernel
theorem dX8_begin_1 : decode cX8_begin 1 = .ok (.aload_n 1, 1) := by decide +kernel
theorem dX8_begin_2 : decode cX8_begin 2 = .ok (.getfield 45, 3) := by decide +kernel
theorem dX8_begin_5 : decode cX8_begin 5 = .ok (.putfield 51, 3) := by decide +kernel
theorem dX8_begin_8 : decode cX8_begin 8 = .ok (.aload_n 0, 1) := by decide +kernel
theorem dX8_begin_9 : decode cX8_begin 9 = .ok (.iconst 1, 1) := by decide +kernel
theorem dX8_begin_10 : decode cX8_begin 10 = .ok (.putfield 52, 3) := by decide +kernel
theorem dX8_begin_13 : decode cX8_begin 13 = .ok (.iconst 0, 1) := by decide +kernel
theorem dX8_begin_14 : decode cX8_begin 14 = .ok (.istore_n 3, 1) := by decide +kernel
theorem dX8_begin_15 : decode cX8_begin 15 = .ok (.iconst 0, 1) := by decide +kernel
theorem dX8_begin_16 : decode cX8_begin 16 = .ok (.istore 4, 2) := by decide +kernel
theorem dX8_begin_18 : decode cX8_begin 18 = .ok (.iload 4, 2) := by decide +kernel
theorem dX8_begin_20 : decode cX8_begin 20 = .ok (.aload_n 0, 1) := by decide +kernel
theorem dX8_begin_21 : decode cX8_begin 21 = .ok (.getfield 51, 3) := by decide +kernel
theorem dX8_begin_24 : decode cX8_begin 24 = .ok (.if_icmp .ge 53, 3) := by decide +kernel
theorem dX8_begin_27 : decode cX8_begin 27 = .ok (.aload_n 0, 1) := by decide +kernel
theorem dX8_begin_28 : decode cX8_begin 28 = .ok (.getfield 11, 3) := by decide +kernel
theorem dX8_begin_31 : decode cX8_begin 31 = .ok (.iload 4, 2) := by decide +kernel
theorem dX8_begin_33 : decode cX8_begin 33 = .ok (.aload_n 2, 1) := by decide +kernel
theorem dX8_begin_34 : decode cX8_begin 34 = .ok (.aload_n 1, 1) := by decide +kernel
theorem dX8_begin_35 : decode cX8_begin 35 = .ok (.iload 4, 2) := by decide +kernel
theorem dX8_begin_37 : decode cX8_begin 37 = .ok (.invokevirtual 55, 3) := by decide +kernel
theorem dX8_begin_40 : decode cX8_begin 40 = .ok (.iastore, 1) := by decide +kernel
theorem dX8_begin_41 : decode cX8_begin 41 = .ok (.aload_n 0, 1) := by decide +kernel
theorem dX8_begin_42 : decode cX8_begin 42 = .ok (.getfield 18, 3) := by decide +kernel
theorem dX8_begin_45 : decode cX8_begin 45 = .ok (.iload 4, 2) := by decide +kernel
theorem dX8_begin_47 : decode cX8_begin 47 = .ok (.iconst 0, 1) := by decide +kernel
theorem dX8_begin_48 : decode cX8_begin 48 = .ok (.iastore, 1) := by decide +kernel
theorem dX8_begin_49 : decode cX8_begin 49 = .ok (.aload_n 0, 1) := by decide +kernel
theorem dX8_begin_50 : decode cX8_begin 50 = .ok (.getfield 21, 3) := by decide +kernel
theorem dX8_begin_53 : decode cX8_begin 53 = .ok (.iload 4, 2) := by decide +kernel
theorem dX8_begin_55 : decode cX8_begin 55 = .ok (.bipush 20, 2) := by decide +kernel
theorem dX8_begin_57 : decode cX8_begin 57 = .ok (.iastore, 1) := by decide +kernel
theorem dX8_begin_58 : decode cX8_begin 58 = .ok (.iload_n 3, 1) := by decide +kernel
theorem dX8_begin_59 : decode cX8_begin 59 = .ok (.aload_n 0, 1) := by decide +kernel
theorem dX8_begin_60 : decode cX8_begin 60 = .ok (.getfield 11, 3) := by decide +kernel
theorem dX8_begin_63 : decode cX8_begin 63 = .ok (.iload 4, 2) := by decide +kernel
theorem dX8_begin_65 : decode cX8_begin 65 = .ok (.iaload, 1) := by decide +kernel
theorem dX8_begin_66 : decode cX8_begin 66 = .ok (.bipush 20, 2) := by decide +kernel
theorem dX8_begin_68 : decode cX8_begin 68 = .ok (.imul, 1) := by decide +kernel
theorem dX8_begin_69 : decode cX8_begin 69 = .ok (.iadd, 1) := by decide +kernel
theorem dX8_begin_70 : decode cX8_begin 70 = .ok (.istore_n 3, 1) := by decide +kernel
theorem dX8_begin_71 : decode cX8_begin 71 = .ok (.iinc 4 1, 3) := by decide +kernel
theorem dX8_begin_74 : decode cX8_begin 74 = .ok (.goto (-56), 3) := by decide +kernel
theorem dX8_begin_77 : decode cX8_begin 77 = .ok (.aload_n 0, 1) := by decide +kernel
theorem dX8_begin_78 : decode cX8_begin 78 = .ok (.getfield 15, 3) := by decide +kernel
theorem dX8_begin_81 : decode cX8_begin 81 = .ok (.iconst 0, 1) := by decide +kernel
theorem dX8_begin_82 : decode cX8_begin 82 = .ok (.aload_n 2, 1) := by decide +kernel
theorem dX8_begin_83 : decode cX8_begin 83 = .ok (.aload_n 1, 1) := by decide +kernel
theorem dX8_begin_84 : decode cX8_begin 84 = .ok (.invokevirtual 61, 3) := by decide +kernel
theorem dX8_begin_87 : decode cX8_begin 87 = .ok (.iload_n 3, 1) := by decide +kernel
theorem dX8_begin_88 : decode cX8_begin 88 = .ok (.invokestatic 65, 3) := by decide +kernel
theorem dX8_begin_91 : decode cX8_begin 91 = .ok (.iastore, 1) := by decide +kernel
theorem dX8_begin_92 : decode cX8_begin 92 = .ok (.return_, 1) := by decide +kernel
theorem dX8_addBuyer_0 : decode cX8_addBuyer 0 = .ok (.aload_n 0, 1) := by decide +kernel
theorem dX8_addBuyer_1 : decode cX8_addBuyer 1 = .ok (.getfield 52, 3) := by decide +kernel
theorem dX8_addBuyer_4 : decode cX8_addBuyer 4 = .ok (.iconst 5, 1) := by decide +kernel
theorem dX8_addBuyer_5 : decode cX8_addBuyer 5 = .ok (.if_icmp .lt 4, 3) := by decide +kernel
theorem dX8_addBuyer_8 : decode cX8_addBuyer 8 = .ok (.return_, 1) := by decide +kernel
theorem dX8_addBuyer_9 : decode cX8_addBuyer 9 = .ok (.iconst 0, 1) := by decide +kernel
theorem dX8_addBuyer_10 : decode cX8_addBuyer 10 = .ok (.istore 4, 2) := by decide +kernel
theorem dX8_addBuyer_12 : decode cX8_addBuyer 12 = .ok (.iload 4, 2) := by decide +kernel
theorem dX8_addBuyer_14 : decode cX8_addBuyer 14 = .ok (.aload_n 0, 1) := by decide +kernel
theorem dX8_addBuyer_15 : decode cX8_addBuyer 15 = .ok (.getfield 51, 3) := by decide +kernel
theorem dX8_addBuyer_18 : decode cX8_addBuyer 18 = .ok (.if_icmp .ge 34, 3) := by decide +kernel
theorem dX8_addBuyer_21 : decode cX8_addBuyer 21 = .ok (.aload_n 0, 1) := by decide +kernel
theorem dX8_addBuyer_22 : decode cX8_addBuyer 22 = .ok (.getfield 11, 3) := by decide +kernel
theorem dX8_addBuyer_25 : decode cX8_addBuyer 25 = .ok (.aload_n 0, 1) := by decide +kernel
theorem dX8_addBuyer_26 : decode cX8_addBuyer 26 = .ok (.getfield 52, 3) := by decide +kernel
theorem dX8_addBuyer_29 : decode cX8_addBuyer 29 = .ok (.iconst 4, 1) := by decide +kernel
theorem dX8_addBuyer_30 : decode cX8_addBuyer 30 = .ok (.imul, 1) := by decide +kernel
theorem dX8_addBuyer_31 : decode cX8_addBuyer 31 = .ok (.iload 4, 2) := by decide +kernel
theorem dX8_addBuyer_33 : decode cX8_addBuyer 33 = .ok (.iadd, 1) := by decide +kernel
theorem dX8_addBuyer_34 : decode cX8_addBuyer 34 = .ok (.aload_n 1, 1) := by decide +kernel
theorem dX8_addBuyer_35 : decode cX8_addBuyer 35 = .ok (.getfield 71, 3) := by decide +kernel
theorem dX8_addBuyer_38 : decode cX8_addBuyer 38 = .ok (.iload_n 3, 1) := by decide +kernel
theorem dX8_addBuyer_39 : decode cX8_addBuyer 39 = .ok (.iconst 4, 1) := by decide +kernel
theorem dX8_addBuyer_40 : decode cX8_addBuyer 40 = .ok (.imul, 1) := by decide +kernel
theorem dX8_addBuyer_41 : decode cX8_addBuyer 41 = .ok (.iload 4, 2) := by decide +kernel
theorem dX8_addBuyer_43 : decode cX8_addBuyer 43 = .ok (.iadd, 1) := by decide +kernel
theorem dX8_addBuyer_44 : decode cX8_addBuyer 44 = .ok (.iaload, 1) := by decide +kernel
theorem dX8_addBuyer_45 : decode cX8_addBuyer 45 = .ok (.iastore, 1) := by decide +kernel
theorem dX8_addBuyer_46 : decode cX8_addBuyer 46 = .ok (.iinc 4 1, 3) := by decide +kernel
theorem dX8_addBuyer_49 : decode cX8_addBuyer 49 = .ok (.goto (-37), 3) := by decide +kernel
theorem dX8_addBuyer_52 : decode cX8_addBuyer 52 = .ok (.aload_n 0, 1) := by decide +kernel
theorem dX8_addBuyer_53 : decode cX8_addBuyer 53 = .ok (.getfield 15, 3) := by decide +kernel
theorem dX8_addBuyer_56 : decode cX8_addBuyer 56 = .ok (.aload_n 0, 1) := by decide +kernel
theorem dX8_addBuyer_57 : decode cX8_addBuyer 57 = .ok (.getfield 52, 3) := by decide +kernel
theorem dX8_addBuyer_60 : decode cX8_addBuyer 60 = .ok (.aload_n 1, 1) := by decide +kernel
theorem dX8_addBuyer_61 : decode cX8_addBuyer 61 = .ok (.iload_n 3, 1) := by decide +kernel
theorem dX8_addBuyer_62 : decode cX8_addBuyer 62 = .ok (.aload_n 2, 1) := by decide +kernel
theorem dX8_addBuyer_63 : decode cX8_addBuyer 63 = .ok (.getfield 74, 3) := by decide +kernel
theorem dX8_addBuyer_66 : decode cX8_addBuyer 66 = .ok (.invokevirtual 77, 3) := by decide +kernel
theorem dX8_addBuyer_69 : decode cX8_addBuyer 69 = .ok (.iastore, 1) := by decide +kernel
theorem dX8_addBuyer_70 : decode cX8_addBuyer 70 = .ok (.aload_n 0, 1) := by decide +kernel
theorem dX8_addBuyer_71 : decode cX8_addBuyer 71 = .ok (.dup, 1) := by decide +kernel
theorem dX8_addBuyer_72 : decode cX8_addBuyer 72 = .ok (.getfield 52, 3) := by decide +kernel
theorem dX8_addBuyer_75 : decode cX8_addBuyer 75 = .ok (.iconst 1, 1) := by decide +kernel
theorem dX8_addBuyer_76 : decode cX8_addBuyer 76 = .ok (.iadd, 1) := by decide +kernel
theorem dX8_addBuyer_77 : decode cX8_addBuyer 77 = .ok (.putfield 52, 3) := by decide +kernel
theorem dX8_addBuyer_80 : decode cX8_addBuyer 80 = .ok (.return_, 1) := by decide +kernel
theorem dX8_holdNear_0 : decode cX8_holdNear 0 = .ok (.iconst 0, 1) := by decide +kernel
theorem dX8_holdNear_1 : decode cX8_holdNear 1 = .ok (.istore_n 3, 1) := by decide +kernel
theorem dX8_holdNear_2 : decode cX8_holdNear 2 = .ok (.iload_n 3, 1) := by decide +kernel
theorem dX8_holdNear_3 : decode cX8_holdNear 3 = .ok (.aload_n 0, 1) := by decide +kernel
theorem dX8_holdNear_4 : decode cX8_holdNear 4 = .ok (.getfield 51, 3) := by decide +kernel
theorem dX8_holdNear_7 : decode cX8_holdNear 7 = .ok (.if_icmp .ge 40, 3) := by decide +kernel
theorem dX8_holdNear_10 : decode cX8_holdNear 10 = .ok (.aload_n 0, 1) := by decide +kernel
theorem dX8_holdNear_11 : decode cX8_holdNear 11 = .ok (.getfield 18, 3) := by decide +kernel
theorem dX8_holdNear_14 : decode cX8_holdNear 14 = .ok (.iload_n 3, 1) := by decide +kernel
theorem dX8_holdNear_15 : decode cX8_holdNear 15 = .ok (.iconst 0, 1) := by decide +kernel
theorem dX8_holdNear_16 : decode cX8_holdNear 16 = .ok (.aload_n 1, 1) := by decide +kernel
theorem dX8_holdNear_17 : decode cX8_holdNear 17 = .ok (.iload_n 3, 1) := by decide +kernel
theorem dX8_holdNear_18 : decode cX8_holdNear 18 = .ok (.iaload, 1) := by decide +kernel
theorem dX8_holdNear_19 : decode cX8_holdNear 19 = .ok (.iload_n 2, 1) := by decide +kernel
theorem dX8_holdNear_20 : decode cX8_holdNear 20 = .ok (.isub, 1) := by decide +kernel
theorem dX8_holdNear_21 : decode cX8_holdNear 21 = .ok (.invokestatic 81, 3) := by decide +kernel
theorem dX8_holdNear_24 : decode cX8_holdNear 24 = .ok (.iastore, 1) := by decide +kernel
theorem dX8_holdNear_25 : decode cX8_holdNear 25 = .ok (.aload_n 0, 1) := by decide +kernel
theorem dX8_holdNear_26 : decode cX8_holdNear 26 = .ok (.getfield 21, 3) := by decide +kernel
theorem dX8_holdNear_29 : decode cX8_holdNear 29 = .ok (.iload_n 3, 1) := by decide +kernel
theorem dX8_holdNear_30 : decode cX8_holdNear 30 = .ok (.bipush 20, 2) := by decide +kernel
theorem dX8_holdNear_32 : decode cX8_holdNear 32 = .ok (.aload_n 1, 1) := by decide +kernel
theorem dX8_holdNear_33 : decode cX8_holdNear 33 = .ok (.iload_n 3, 1) := by decide +kernel
theorem dX8_holdNear_34 : decode cX8_holdNear 34 = .ok (.iaload, 1) := by decide +kernel
theorem dX8_holdNear_35 : decode cX8_holdNear 35 = .ok (.iload_n 2, 1) := by decide +kernel
theorem dX8_holdNear_36 : decode cX8_holdNear 36 = .ok (.iadd, 1) := by decide +kernel
theorem dX8_holdNear_37 : decode cX8_holdNear 37 = .ok (.invokestatic 65, 3) := by decide +kernel
theorem dX8_holdNear_40 : decode cX8_holdNear 40 = .ok (.iastore, 1) := by decide +kernel
theorem dX8_holdNear_41 : decode cX8_holdNear 41 = .ok (.iinc 3 1, 3) := by decide +kernel
theorem dX8_holdNear_44 : decode cX8_holdNear 44 = .ok (.goto (-42), 3) := by decide +kernel
theorem dX8_holdNear_47 : decode cX8_holdNear 47 = .ok (.return_, 1) := by decide +kernel
theorem dX8_find_0 : decode cX8_find 0 = .ok (.aload_n 2, 1) := by decide +kernel
theorem dX8_find_1 : decode cX8_find 1 = .ok (.iconst 1, 1) := by decide +kernel
theorem dX8_find_2 : decode cX8_find 2 = .ok (.putfield 84, 3) := by decide +kernel
theorem dX8_find_5 : decode cX8_find 5 = .ok (.aload_n 2, 1) := by decide +kernel
theorem dX8_find_6 : decode cX8_find 6 = .ok (.aload_n 0, 1) := by decide +kernel
theorem dX8_find_7 : decode cX8_find 7 = .ok (.aload_n 1, 1) := by decide +kernel
theorem dX8_find_8 : decode cX8_find 8 = .ok (.invokevirtual 90, 3) := by decide +kernel
theorem dX8_find_11 : decode cX8_find 11 = .ok (.putfield 94, 3) := by decide +kernel
theorem dX8_find_14 : decode cX8_find 14 = .ok (.aload_n 2, 1) := by decide +kernel
theorem dX8_find_15 : decode cX8_find 15 = .ok (.getfield 94, 3) := by decide +kernel
theorem dX8_find_18 : decode cX8_find 18 = .ok (.ifCond .eq 8, 3) := by decide +kernel
theorem dX8_find_21 : decode cX8_find 21 = .ok (.aload_n 0, 1) := by decide +kernel
theorem dX8_find_22 : decode cX8_find 22 = .ok (.aload_n 2, 1) := by decide +kernel
theorem dX8_find_23 : decode cX8_find 23 = .ok (.invokevirtual 97, 3) := by decide +kernel
theorem dX8_find_26 : decode cX8_find 26 = .ok (.return_, 1) := by decide +kernel
theorem dX8_prepare_0 : decode cX8_prepare 0 = .ok (.aload_n 0, 1) := by decide +kernel
theorem dX8_prepare_1 : decode cX8_prepare 1 = .ok (.invokevirtual 101, 3) := by decide +kernel
theorem dX8_prepare_4 : decode cX8_prepare 4 = .ok (.ifCond .ne 5, 3) := by decide +kernel
theorem dX8_prepare_7 : decode cX8_prepare 7 = .ok (.iconst 0, 1) := by decide +kernel
theorem dX8_prepare_8 : decode cX8_prepare 8 = .ok (.ireturn, 1) := by decide +kernel
theorem dX8_prepare_9 : decode cX8_prepare 9 = .ok (.iconst 0, 1) := by decide +kernel
theorem dX8_prepare_10 : decode cX8_prepare 10 = .ok (.istore_n 2, 1) := by decide +kernel
theorem dX8_prepare_11 : decode cX8_prepare 11 = .ok (.iload_n 2, 1) := by decide +kernel
theorem dX8_prepare_12 : decode cX8_prepare 12 = .ok (.aload_n 0, 1) := by decide +kernel
theorem dX8_prepare_13 : decode cX8_prepare 13 = .ok (.getfield 51, 3) := by decide +kernel
theorem dX8_prepare_16 : decode cX8_prepare 16 = .ok (.if_icmp .ge 15, 3) := by decide +kernel
theorem dX8_prepare_19 : decode cX8_prepare 19 = .ok (.aload_n 0, 1) := by decide +kernel
theorem dX8_prepare_20 : decode cX8_prepare 20 = .ok (.aload_n 1, 1) := by decide +kernel
theorem dX8_prepare_21 : decode cX8_prepare 21 = .ok (.iload_n 2, 1) := by decide +kernel
theorem dX8_prepare_22 : decode cX8_prepare 22 = .ok (.invokevirtual 105, 3) := by decide +kernel
theorem dX8_prepare_25 : decode cX8_prepare 25 = .ok (.iinc 2 1, 3) := by decide +kernel
theorem dX8_prepare_28 : decode cX8_prepare 28 = .ok (.goto (-17), 3) := by decide +kernel
theorem dX8_prepare_31 : decode cX8_prepare 31 = .ok (.aload_n 0, 1) := by decide +kernel
theorem dX8_prepare_32 : decode cX8_prepare 32 = .ok (.invokevirtual 109, 3) := by decide +kernel
theorem dX8_prepare_35 : decode cX8_prepare 35 = .ok (.iconst 1, 1) := by decide +kernel
theorem dX8_prepare_36 : decode cX8_prepare 36 = .ok (.ireturn, 1) := by decide +kernel
theorem dX8_bound_0 : decode cX8_bound 0 = .ok (.aload_n 0, 1) := by decide +kernel
theorem dX8_bound_1 : decode cX8_bound 1 = .ok (.getfield 42, 3) := by decide +kernel
theorem dX8_bound_4 : decode cX8_bound 4 = .ok (.iconst 0, 1) := by decide +kernel
theorem dX8_bound_5 : decode cX8_bound 5 = .ok (.iaload, 1) := by decide +kernel
theorem dX8_bound_6 : decode cX8_bound 6 = .ok (.aload_n 0, 1) := by decide +kernel
theorem dX8_bound_7 : decode cX8_bound 7 = .ok (.getfield 112, 3) := by decide +kernel
theorem dX8_bound_10 : decode cX8_bound 10 = .ok (.aload_n 0, 1) := by decide +kernel
theorem dX8_bound_11 : decode cX8_bound 11 = .ok (.getfield 15, 3) := by decide +kernel
theorem dX8_bound_14 : decode cX8_bound 14 = .ok (.iconst 0, 1) := by decide +kernel
theorem dX8_bound_15 : decode cX8_bound 15 = .ok (.iaload, 1) := by decide +kernel
theorem dX8_bound_16 : decode cX8_bound 16 = .ok (.imul, 1) := by decide +kernel
theorem dX8_bound_17 : decode cX8_bound 17 = .ok (.iadd, 1) := by decide +kernel
theorem dX8_bound_18 : decode cX8_bound 18 = .ok (.bipush 8, 2) := by decide +kernel
theorem dX8_bound_20 : decode cX8_bound 20 = .ok (.ishr, 1) := by decide +kernel
theorem dX8_bound_21 : decode cX8_bound 21 = .ok (.ireturn, 1) := by decide +kernel
theorem dX8_seek_0 : decode cX8_seek 0 = .ok (.aload_n 0, 1) := by decide +kernel
theorem dX8_seek_1 : decode cX8_seek 1 = .ok (.invokevirtual 115, 3) := by decide +kernel
theorem dX8_seek_4 : decode cX8_seek 4 = .ok (.aload_n 0, 1) := by decide +kernel
theorem dX8_seek_5 : decode cX8_seek 5 = .ok (.iconst 0, 1) := by decide +kernel
theorem dX8_seek_6 : decode cX8_seek 6 = .ok (.iconst 0, 1) := by decide +kernel
theorem dX8_seek_7 : decode cX8_seek 7 = .ok (.invokevirtual 118, 3) := by decide +kernel
theorem dX8_seek_10 : decode cX8_seek 10 = .ok (.aload_n 1, 1) := by decide +kernel
theorem dX8_seek_11 : decode cX8_seek 11 = .ok (.aload_n 0, 1) := by decide +kernel
theorem dX8_seek_12 : decode cX8_seek 12 = .ok (.getfield 122, 3) := by decide +kernel
theorem dX8_seek_15 : decode cX8_seek 15 = .ok (.putfield 125, 3) := by decide +kernel
theorem dX8_seek_18 : decode cX8_seek 18 = .ok (.iconst 0, 1) := by decide +kernel
theorem dX8_seek_19 : decode cX8_seek 19 = .ok (.istore_n 2, 1) := by decide +kernel
theorem dX8_seek_20 : decode cX8_seek 20 = .ok (.iload_n 2, 1) := by decide +kernel
theorem dX8_seek_21 : decode cX8_seek 21 = .ok (.aload_n 0, 1) := by decide +kernel
theorem dX8_seek_22 : decode cX8_seek 22 = .ok (.getfield 51, 3) := by decide +kernel
theorem dX8_seek_25 : decode cX8_seek 25 = .ok (.if_icmp .ge 38, 3) := by decide +kernel
theorem dX8_seek_28 : decode cX8_seek 28 = .ok (.aload_n 1, 1) := by decide +kernel
theorem dX8_seek_29 : decode cX8_seek 29 = .ok (.getfield 127, 3) := by decide +kernel
theorem dX8_seek_32 : decode cX8_seek 32 = .ok (.iload_n 2, 1) := by decide +kernel
theorem dX8_seek_33 : decode cX8_seek 33 = .ok (.aload_n 0, 1) := by decide +kernel
theorem dX8_seek_34 : decode cX8_seek 34 = .ok (.getfield 18, 3) := by decide +kernel
theorem dX8_seek_37 : decode cX8_seek 37 = .ok (.iload_n 2, 1) := by decide +kernel
theorem dX8_seek_38 : decode cX8_seek 38 = .ok (.iaload, 1) := by decide +kernel
theorem dX8_seek_39 : decode cX8_seek 39 = .ok (.aload_n 0, 1) := by decide +kernel
theorem dX8_seek_40 : decode cX8_seek 40 = .ok (.getfield 27, 3) := by decide +kernel
theorem dX8_seek_43 : decode cX8_seek 43 = .ok (.iload_n 2, 1) := by decide +kernel
theorem dX8_seek_44 : decode cX8_seek 44 = .ok (.bipush 21, 2) := by decide +kernel
theorem dX8_seek_46 : decode cX8_seek 46 = .ok (.imul, 1) := by decide +kernel
theorem dX8_seek_47 : decode cX8_seek 47 = .ok (.aload_n 0, 1) := by decide +kernel
theorem dX8_seek_48 : decode cX8_seek 48 = .ok (.getfield 39, 3) := by decide +kernel
theorem dX8_seek_51 : decode cX8_seek 51 = .ok (.iload_n 2, 1) := by decide +kernel
theorem dX8_seek_52 : decode cX8_seek 52 = .ok (.iaload, 1) := by decide +kernel
theorem dX8_seek_53 : decode cX8_seek 53 = .ok (.iadd, 1) := by decide +kernel
theorem dX8_seek_54 : decode cX8_seek 54 = .ok (.iaload, 1) := by decide +kernel
theorem dX8_seek_55 : decode cX8_seek 55 = .ok (.iadd, 1) := by decide +kernel
theorem dX8_seek_56 : decode cX8_seek 56 = .ok (.iastore, 1) := by decide +kernel
theorem dX8_seek_57 : decode cX8_seek 57 = .ok (.iinc 2 1, 3) := by decide +kernel
theorem dX8_seek_60 : decode cX8_seek 60 = .ok (.goto (-40), 3) := by decide +kernel
theorem dX8_seek_63 : decode cX8_seek 63 = .ok (.return_, 1) := by decide +kernel
theorem dX8_takeLowest_0 : decode cX8_takeLowest 0 = .ok (.iconst 1, 1) := by decide +kernel
theorem dX8_takeLowest_1 : decode cX8_takeLowest 1 = .ok (.istore_n 1, 1) := by decide +kernel
theorem dX8_takeLowest_2 : decode cX8_takeLowest 2 = .ok (.iconst 0, 1) := by decide +kernel
theorem dX8_takeLowest_3 : decode cX8_takeLowest 3 = .ok (.istore_n 2, 1) := by decide +kernel
theorem dX8_takeLowest_4 : decode cX8_takeLowest 4 = .ok (.iload_n 2, 1) := by decide +kernel
theorem dX8_takeLowest_5 : decode cX8_takeLowest 5 = .ok (.aload_n 0, 1) := by decide +kernel
theorem dX8_takeLowest_6 : decode cX8_takeLowest 6 = .ok (.getfield 52, 3) := by decide +kernel
theorem dX8_takeLowest_9 : decode cX8_takeLowest 9 = .ok (.if_icmp .ge 70, 3) := by decide +kernel
theorem dX8_takeLowest_12 : decode cX8_takeLowest 12 = .ok (.iconst 0, 1) := by decide +kernel
theorem dX8_takeLowest_13 : decode cX8_takeLowest 13 = .ok (.istore_n 3, 1) := by decide +kernel
theorem dX8_takeLowest_14 : decode cX8_takeLowest 14 = .ok (.iload_n 3, 1) := by decide +kernel
theorem dX8_takeLowest_15 : decode cX8_takeLowest 15 = .ok (.aload_n 0, 1) := by decide +kernel
theorem dX8_takeLowest_16 : decode cX8_takeLowest 16 = .ok (.getfield 51, 3) := by decide +kernel
theorem dX8_takeLowest_19 : decode cX8_takeLowest 19 = .ok (.if_icmp .ge 35, 3) := by decide +kernel
theorem dX8_takeLowest_22 : decode cX8_takeLowest 22 = .ok (.aload_n 0, 1) := by decide +kernel
theorem dX8_takeLowest_23 : decode cX8_takeLowest 23 = .ok (.getfield 15, 3) := by decide +kernel
theorem dX8_takeLowest_26 : decode cX8_takeLowest 26 = .ok (.iload_n 2, 1) := by decide +kernel
theorem dX8_takeLowest_27 : decode cX8_takeLowest 27 = .ok (.dup2, 1) := by decide +kernel
theorem dX8_takeLowest_28 : decode cX8_takeLowest 28 = .ok (.iaload, 1) := by decide +kernel
theorem dX8_takeLowest_29 : decode cX8_takeLowest 29 = .ok (.aload_n 0, 1) := by decide +kernel
theorem dX8_takeLowest_30 : decode cX8_takeLowest 30 = .ok (.getfield 11, 3) := by decide +kernel
theorem dX8_takeLowest_33 : decode cX8_takeLowest 33 = .ok (.iload_n 2, 1) := by decide +kernel
theorem dX8_takeLowest_34 : decode cX8_takeLowest 34 = .ok (.iconst 4, 1) := by decide +kernel
theorem dX8_takeLowest_35 : decode cX8_takeLowest 35 = .ok (.imul, 1) := by decide +kernel
theorem dX8_takeLowest_36 : decode cX8_takeLowest 36 = .ok (.iload_n 3, 1) := by decide +kernel
theorem dX8_takeLowest_37 : decode cX8_takeLowest 37 = .ok (.iadd, 1) := by decide +kernel
theorem dX8_takeLowest_38 : decode cX8_takeLowest 38 = .ok (.iaload, 1) := by decide +kernel
theorem dX8_takeLowest_39 : decode cX8_takeLowest 39 = .ok (.aload_n 0, 1) := by decide +kernel
theorem dX8_takeLowest_40 : decode cX8_takeLowest 40 = .ok (.getfield 18, 3) := by decide +kernel
theorem dX8_takeLowest_43 : decode cX8_takeLowest 43 = .ok (.iload_n 3, 1) := by decide +kernel
theorem dX8_takeLowest_44 : decode cX8_takeLowest 44 = .ok (.iaload, 1) := by decide +kernel
theorem dX8_takeLowest_45 : decode cX8_takeLowest 45 = .ok (.imul, 1) := by decide +kernel
theorem dX8_takeLowest_46 : decode cX8_takeLowest 46 = .ok (.isub, 1) := by decide +kernel
theorem dX8_takeLowest_47 : decode cX8_takeLowest 47 = .ok (.iastore, 1) := by decide +kernel
theorem dX8_takeLowest_48 : decode cX8_takeLowest 48 = .ok (.iinc 3 1, 3) := by decide +kernel
theorem dX8_takeLowest_51 : decode cX8_takeLowest 51 = .ok (.goto (-37), 3) := by decide +kernel
theorem dX8_takeLowest_54 : decode cX8_takeLowest 54 = .ok (.iload_n 1, 1) := by decide +kernel
theorem dX8_takeLowest_55 : decode cX8_takeLowest 55 = .ok (.ifCond .eq 16, 3) := by decide +kernel
theorem dX8_takeLowest_58 : decode cX8_takeLowest 58 = .ok (.aload_n 0, 1) := by decide +kernel
theorem dX8_takeLowest_59 : decode cX8_takeLowest 59 = .ok (.getfield 15, 3) := by decide +kernel
theorem dX8_takeLowest_62 : decode cX8_takeLowest 62 = .ok (.iload_n 2, 1) := by decide +kernel
theorem dX8_takeLowest_63 : decode cX8_takeLowest 63 = .ok (.iaload, 1) := by decide +kernel
theorem dX8_takeLowest_64 : decode cX8_takeLowest 64 = .ok (.ifCond .lt 7, 3) := by decide +kernel
theorem dX8_takeLowest_67 : decode cX8_takeLowest 67 = .ok (.iconst 1, 1) := by decide +kernel
theorem dX8_takeLowest_68 : decode cX8_takeLowest 68 = .ok (.goto 4, 3) := by decide +kernel
theorem dX8_takeLowest_71 : decode cX8_takeLowest 71 = .ok (.iconst 0, 1) := by decide +kernel
theorem dX8_takeLowest_72 : decode cX8_takeLowest 72 = .ok (.istore_n 1, 1) := by decide +kernel
theorem dX8_takeLowest_73 : decode cX8_takeLowest 73 = .ok (.iinc 2 1, 3) := by decide +kernel
theorem dX8_takeLowest_76 : decode cX8_takeLowest 76 = .ok (.goto (-72), 3) := by decide +kernel
theorem dX8_takeLowest_79 : decode cX8_takeLowest 79 = .ok (.iload_n 1, 1) := by decide +kernel
theorem dX8_takeLowest_80 : decode cX8_takeLowest 80 = .ok (.ireturn, 1) := by decide +kernel
theorem dX8_setStairs_0 : decode cX8_setStairs 0 = .ok (.iload_n 2, 1) := by decide +kernel
theorem dX8_setStairs_1 : decode cX8_setStairs 1 = .ok (.bipush 21, 2) := by decide +kernel
theorem dX8_setStairs_3 : decode cX8_setStairs 3 = .ok (.imul, 1) := by decide +kernel
theorem dX8_setStairs_4 : decode cX8_setStairs 4 = .ok (.istore_n 3, 1) := by decide +kernel
theorem dX8_setStairs_5 : decode cX8_setStairs 5 = .ok (.iconst 0, 1) := by decide +kernel
theorem dX8_setStairs_6 : decode cX8_setStairs 6 = .ok (.istore 4, 2) := by decide +kernel
theorem dX8_setStairs_8 : decode cX8_setStairs 8 = .ok (.aload_n 0, 1) := by decide +kernel
theorem dX8_setStairs_9 : decode cX8_setStairs 9 = .ok (.getfield 18, 3) := by decide +kernel
theorem dX8_setStairs_12 : decode cX8_setStairs 12 = .ok (.iload_n 2, 1) := by decide +kernel
theorem dX8_setStairs_13 : decode cX8_setStairs 13 = .ok (.iaload, 1) := by decide +kernel
theorem dX8_setStairs_14 : decode cX8_setStairs 14 = .ok (.istore 5, 2) := by decide +kernel
theorem dX8_setStairs_16 : decode cX8_setStairs 16 = .ok (.iload 5, 2) := by decide +kernel
theorem dX8_setStairs_18 : decode cX8_setStairs 18 = .ok (.aload_n 0, 1) := by decide +kernel
theorem dX8_setStairs_19 : decode cX8_setStairs 19 = .ok (.getfield 21, 3) := by decide +kernel
theorem dX8_setStairs_22 : decode cX8_setStairs 22 = .ok (.iload_n 2, 1) := by decide +kernel
theorem dX8_setStairs_23 : decode cX8_setStairs 23 = .ok (.iaload, 1) := by decide +kernel
theorem dX8_setStairs_24 : decode cX8_setStairs 24 = .ok (.if_icmp .gt 90, 3) := by decide +kernel
theorem dX8_setStairs_27 : decode cX8_setStairs 27 = .ok (.aload_n 1, 1) := by decide +kernel
theorem dX8_setStairs_28 : decode cX8_setStairs 28 = .ok (.iload_n 3, 1) := by decide +kernel
theorem dX8_setStairs_29 : decode cX8_setStairs 29 = .ok (.iload 5, 2) := by decide +kernel
theorem dX8_setStairs_31 : decode cX8_setStairs 31 = .ok (.iadd, 1) := by decide +kernel
theorem dX8_setStairs_32 : decode cX8_setStairs 32 = .ok (.iaload, 1) := by decide +kernel
theorem dX8_setStairs_33 : decode cX8_setStairs 33 = .ok (.istore 6, 2) := by decide +kernel
theorem dX8_setStairs_35 : decode cX8_setStairs 35 = .ok (.iload 4, 2) := by decide +kernel
theorem dX8_setStairs_37 : decode cX8_setStairs 37 = .ok (.ifCond .eq 19, 3) := by decide +kernel
theorem dX8_setStairs_40 : decode cX8_setStairs 40 = .ok (.iload 6, 2) := by decide +kernel
theorem dX8_setStairs_42 : decode cX8_setStairs 42 = .ok (.aload_n 0, 1) := by decide +kernel
theorem dX8_setStairs_43 : decode cX8_setStairs 43 = .ok (.getfield 30, 3) := by decide +kernel
theorem dX8_setStairs_46 : decode cX8_setStairs 46 = .ok (.iload_n 3, 1) := by decide +kernel
theorem dX8_setStairs_47 : decode cX8_setStairs 47 = .ok (.iload 4, 2) := by decide +kernel
theorem dX8_setStairs_49 : decode cX8_setStairs 49 = .ok (.iadd, 1) := by decide +kernel
theorem dX8_setStairs_50 : decode cX8_setStairs 50 = .ok (.iconst 1, 1) := by decide +kernel
theorem dX8_setStairs_51 : decode cX8_setStairs 51 = .ok (.isub, 1) := by decide +kernel
theorem dX8_setStairs_52 : decode cX8_setStairs 52 = .ok (.iaload, 1) := by decide +kernel
theorem dX8_setStairs_53 : decode cX8_setStairs 53 = .ok (.if_icmp .le 35, 3) := by decide +kernel
theorem dX8_setStairs_56 : decode cX8_setStairs 56 = .ok (.aload_n 0, 1) := by decide +kernel
theorem dX8_setStairs_57 : decode cX8_setStairs 57 = .ok (.getfield 27, 3) := by decide +kernel
theorem dX8_setStairs_60 : decode cX8_setStairs 60 = .ok (.iload_n 3, 1) := by decide +kernel
theorem dX8_setStairs_61 : decode cX8_setStairs 61 = .ok (.iload 4, 2) := by decide +kernel
theorem dX8_setStairs_63 : decode cX8_setStairs 63 = .ok (.iadd, 1) := by decide +kernel
theorem dX8_setStairs_64 : decode cX8_setStairs 64 = .ok (.iload 5, 2) := by decide +kernel
theorem dX8_setStairs_66 : decode cX8_setStairs 66 = .ok (.aload_n 0, 1) := by decide +kernel
theorem dX8_setStairs_67 : decode cX8_setStairs 67 = .ok (.getfield 18, 3) := by decide +kernel
theorem dX8_setStairs_70 : decode cX8_setStairs 70 = .ok (.iload_n 2, 1) := by decide +kernel
theorem dX8_setStairs_71 : decode cX8_setStairs 71 = .ok (.iaload, 1) := by decide +kernel
theorem dX8_setStairs_72 : decode cX8_setStairs 72 = .ok (.isub, 1) := by decide +kernel
theorem dX8_setStairs_73 : decode cX8_setStairs 73 = .ok (.iastore, 1) := by decide +kernel
theorem dX8_setStairs_74 : decode cX8_setStairs 74 = .ok (.aload_n 0, 1) := by decide +kernel
theorem dX8_setStairs_75 : decode cX8_setStairs 75 = .ok (.getfield 30, 3) := by decide +kernel
theorem dX8_setStairs_78 : decode cX8_setStairs 78 = .ok (.iload_n 3, 1) := by decide +kernel
theorem dX8_setStairs_79 : decode cX8_setStairs 79 = .ok (.iload 4, 2) := by decide +kernel
theorem dX8_setStairs_81 : decode cX8_setStairs 81 = .ok (.iadd, 1) := by decide +kernel
theorem dX8_setStairs_82 : decode cX8_setStairs 82 = .ok (.iload 6, 2) := by decide +kernel
theorem dX8_setStairs_84 : decode cX8_setStairs 84 = .ok (.iastore, 1) := by decide +kernel
theorem dX8_setStairs_85 : decode cX8_setStairs 85 = .ok (.iinc 4 1, 3) := by decide +kernel
theorem dX8_setStairs_88 : decode cX8_setStairs 88 = .ok (.aload_n 0, 1) := by decide +kernel
theorem dX8_setStairs_89 : decode cX8_setStairs 89 = .ok (.getfield 33, 3) := by decide +kernel
theorem dX8_setStairs_92 : decode cX8_setStairs 92 = .ok (.iload_n 3, 1) := by decide +kernel
theorem dX8_setStairs_93 : decode cX8_setStairs 93 = .ok (.iload 5, 2) := by decide +kernel
theorem dX8_setStairs_95 : decode cX8_setStairs 95 = .ok (.iadd, 1) := by decide +kernel
theorem dX8_setStairs_96 : decode cX8_setStairs 96 = .ok (.aload_n 0, 1) := by decide +kernel
theorem dX8_setStairs_97 : decode cX8_setStairs 97 = .ok (.getfield 18, 3) := by decide +kernel
theorem dX8_setStairs_100 : decode cX8_setStairs 100 = .ok (.iload_n 2, 1) := by decide +kernel
theorem dX8_setStairs_101 : decode cX8_setStairs 101 = .ok (.iaload, 1) := by decide +kernel
theorem dX8_setStairs_102 : decode cX8_setStairs 102 = .ok (.isub, 1) := by decide +kernel
theorem dX8_setStairs_103 : decode cX8_setStairs 103 = .ok (.iload 4, 2) := by decide +kernel
theorem dX8_setStairs_105 : decode cX8_setStairs 105 = .ok (.iconst 1, 1) := by decide +kernel
theorem dX8_setStairs_106 : decode cX8_setStairs 106 = .ok (.isub, 1) := by decide +kernel
theorem dX8_setStairs_107 : decode cX8_setStairs 107 = .ok (.iastore, 1) := by decide +kernel
theorem dX8_setStairs_108 : decode cX8_setStairs 108 = .ok (.iinc 5 1, 3) := by decide +kernel
theorem dX8_setStairs_111 : decode cX8_setStairs 111 = .ok (.goto (-95), 3) := by decide +kernel
theorem dX8_setStairs_114 : decode cX8_setStairs 114 = .ok (.aload_n 0, 1) := by decide +kernel
theorem dX8_setStairs_115 : decode cX8_setStairs 115 = .ok (.getfield 24, 3) := by decide +kernel
theorem dX8_setStairs_118 : decode cX8_setStairs 118 = .ok (.iload_n 2, 1) := by decide +kernel
theorem dX8_setStairs_119 : decode cX8_setStairs 119 = .ok (.iload 4, 2) := by decide +kernel
theorem dX8_setStairs_121 : decode cX8_setStairs 121 = .ok (.iastore, 1) := by decide +kernel
theorem dX8_setStairs_122 : decode cX8_setStairs 122 = .ok (.return_, 1) := by decide +kernel
theorem dX8_setToll_0 : decode cX8_setToll 0 = .ok (.aload_n 0, 1) := by decide +kernel
theorem dX8_setToll_1 : decode cX8_setToll 1 = .ok (.iconst 0, 1) := by decide +kernel
theorem dX8_setToll_2 : decode cX8_setToll 2 = .ok (.invokevirtual 128, 3) := by decide +kernel
theorem dX8_setToll_5 : decode cX8_setToll 5 = .ok (.aload_n 0, 1) := by decide +kernel
theorem dX8_setToll_6 : decode cX8_setToll 6 = .ok (.getfield 15, 3) := by decide +kernel
theorem dX8_setToll_9 : decode cX8_setToll 9 = .ok (.iconst 0, 1) := by decide +kernel
theorem dX8_setToll_10 : decode cX8_setToll 10 = .ok (.iaload, 1) := by decide +kernel
theorem dX8_setToll_11 : decode cX8_setToll 11 = .ok (.if_icmp .gt 4, 3) := by decide +kernel
theorem dX8_setToll_14 : decode cX8_setToll 14 = .ok (.return_, 1) := by decide +kernel
theorem dX8_setToll_15 : decode cX8_setToll 15 = .ok (.iconst 0, 1) := by decide +kernel
theorem dX8_setToll_16 : decode cX8_setToll 16 = .ok (.istore_n 1, 1) := by decide +kernel
theorem dX8_setToll_17 : decode cX8_setToll 17 = .ok (.sipush 1024, 3) := by decide +kernel
theorem dX8_setToll_20 : decode cX8_setToll 20 = .ok (.istore_n 2, 1) := by decide +kernel
theorem dX8_setToll_21 : decode cX8_setToll 21 = .ok (.iconst 0, 1) := by decide +kernel
theorem dX8_setToll_22 : decode cX8_setToll 22 = .ok (.istore_n 3, 1) := by decide +kernel
theorem dX8_setToll_23 : decode cX8_setToll 23 = .ok (.iload_n 3, 1) := by decide +kernel
theorem dX8_setToll_24 : decode cX8_setToll 24 = .ok (.bipush 10, 2) := by decide +kernel
theorem dX8_setToll_26 : decode cX8_setToll 26 = .ok (.if_icmp .ge 40, 3) := by decide +kernel
theorem dX8_setToll_29 : decode cX8_setToll 29 = .ok (.iload_n 1, 1) := by decide +kernel
theorem dX8_setToll_30 : decode cX8_setToll 30 = .ok (.iload_n 2, 1) := by decide +kernel
theorem dX8_setToll_31 : decode cX8_setToll 31 = .ok (.iadd, 1) := by decide +kernel
theorem dX8_setToll_32 : decode cX8_setToll 32 = .ok (.iconst 2, 1) := by decide +kernel
theorem dX8_setToll_33 : decode cX8_setToll 33 = .ok (.idiv, 1) := by decide +kernel
theorem dX8_setToll_34 : decode cX8_setToll 34 = .ok (.istore 4, 2) := by decide +kernel
theorem dX8_setToll_36 : decode cX8_setToll 36 = .ok (.aload_n 0, 1) := by decide +kernel
theorem dX8_setToll_37 : decode cX8_setToll 37 = .ok (.iload 4, 2) := by decide +kernel
theorem dX8_setToll_39 : decode cX8_setToll 39 = .ok (.invokevirtual 128, 3) := by decide +kernel
theorem dX8_setToll_42 : decode cX8_setToll 42 = .ok (.aload_n 0, 1) := by decide +kernel
theorem dX8_setToll_43 : decode cX8_setToll 43 = .ok (.getfield 15, 3) := by decide +kernel
theorem dX8_setToll_46 : decode cX8_setToll 46 = .ok (.iconst 0, 1) := by decide +kernel
theorem dX8_setToll_47 : decode cX8_setToll 47 = .ok (.iaload, 1) := by decide +kernel
theorem dX8_setToll_48 : decode cX8_setToll 48 = .ok (.if_icmp .le 9, 3) := by decide +kernel
theorem dX8_setToll_51 : decode cX8_setToll 51 = .ok (.iload 4, 2) := by decide +kernel
theorem dX8_setToll_53 : decode cX8_setToll 53 = .ok (.istore_n 1, 1) := by decide +kernel
theorem dX8_setToll_54 : decode cX8_setToll 54 = .ok (.goto 6, 3) := by decide +kernel
theorem dX8_setToll_57 : decode cX8_setToll 57 = .ok (.iload 4, 2) := by decide +kernel
theorem dX8_setToll_59 : decode cX8_setToll 59 = .ok (.istore_n 2, 1) := by decide +kernel
theorem dX8_setToll_60 : decode cX8_setToll 60 = .ok (.iinc 3 1, 3) := by decide +kernel
theorem dX8_setToll_63 : decode cX8_setToll 63 = .ok (.goto (-40), 3) := by decide +kernel
theorem dX8_setToll_66 : decode cX8_setToll 66 = .ok (.aload_n 0, 1) := by decide +kernel
theorem dX8_setToll_67 : decode cX8_setToll 67 = .ok (.iload_n 2, 1) := by decide +kernel
theorem dX8_setToll_68 : decode cX8_setToll 68 = .ok (.invokevirtual 128, 3) := by decide +kernel
theorem dX8_setToll_71 : decode cX8_setToll 71 = .ok (.pop, 1) := by decide +kernel
theorem dX8_setToll_72 : decode cX8_setToll 72 = .ok (.return_, 1) := by decide +kernel
theorem dX8_chooseAt_0 : decode cX8_chooseAt 0 = .ok (.aload_n 0, 1) := by decide +kernel
theorem dX8_chooseAt_1 : decode cX8_chooseAt 1 = .ok (.iload_n 1, 1) := by decide +kernel
theorem dX8_chooseAt_2 : decode cX8_chooseAt 2 = .ok (.putfield 112, 3) := by decide +kernel
theorem dX8_chooseAt_5 : decode cX8_chooseAt 5 = .ok (.aload_n 0, 1) := by decide +kernel
theorem dX8_chooseAt_6 : decode cX8_chooseAt 6 = .ok (.getfield 42, 3) := by decide +kernel
theorem dX8_chooseAt_9 : decode cX8_chooseAt 9 = .ok (.aload_n 0, 1) := by decide +kernel
theorem dX8_chooseAt_10 : decode cX8_chooseAt 10 = .ok (.getfield 51, 3) := by decide +kernel
theorem dX8_chooseAt_13 : decode cX8_chooseAt 13 = .ok (.iconst 0, 1) := by decide +kernel
theorem dX8_chooseAt_14 : decode cX8_chooseAt 14 = .ok (.iastore, 1) := by decide +kernel
theorem dX8_chooseAt_15 : decode cX8_chooseAt 15 = .ok (.iconst 0, 1) := by decide +kernel
theorem dX8_chooseAt_16 : decode cX8_chooseAt 16 = .ok (.istore_n 2, 1) := by decide +kernel
theorem dX8_chooseAt_17 : decode cX8_chooseAt 17 = .ok (.aload_n 0, 1) := by decide +kernel
theorem dX8_chooseAt_18 : decode cX8_chooseAt 18 = .ok (.getfield 51, 3) := by decide +kernel
theorem dX8_chooseAt_21 : decode cX8_chooseAt 21 = .ok (.iconst 1, 1) := by decide +kernel
theorem dX8_chooseAt_22 : decode cX8_chooseAt 22 = .ok (.isub, 1) := by decide +kernel
theorem dX8_chooseAt_23 : decode cX8_chooseAt 23 = .ok (.istore_n 3, 1) := by decide +kernel
theorem dX8_chooseAt_24 : decode cX8_chooseAt 24 = .ok (.iload_n 3, 1) := by decide +kernel
theorem dX8_chooseAt_25 : decode cX8_chooseAt 25 = .ok (.ifCond .lt 163, 3) := by decide +kernel
theorem dX8_chooseAt_28 : decode cX8_chooseAt 28 = .ok (.iload_n 3, 1) := by decide +kernel
theorem dX8_chooseAt_29 : decode cX8_chooseAt 29 = .ok (.bipush 21, 2) := by decide +kernel
theorem dX8_chooseAt_31 : decode cX8_chooseAt 31 = .ok (.imul, 1) := by decide +kernel
theorem dX8_chooseAt_32 : decode cX8_chooseAt 32 = .ok (.istore 4, 2) := by decide +kernel
theorem dX8_chooseAt_34 : decode cX8_chooseAt 34 = .ok (.aload_n 0, 1) := by decide +kernel
theorem dX8_chooseAt_35 : decode cX8_chooseAt 35 = .ok (.getfield 112, 3) := by decide +kernel
theorem dX8_chooseAt_38 : decode cX8_chooseAt 38 = .ok (.aload_n 0, 1) := by decide +kernel
theorem dX8_chooseAt_39 : decode cX8_chooseAt 39 = .ok (.getfield 11, 3) := by decide +kernel
theorem dX8_chooseAt_42 : decode cX8_chooseAt 42 = .ok (.iload_n 3, 1) := by decide +kernel
theorem dX8_chooseAt_43 : decode cX8_chooseAt 43 = .ok (.iaload, 1) := by decide +kernel
theorem dX8_chooseAt_44 : decode cX8_chooseAt 44 = .ok (.imul, 1) := by decide +kernel
theorem dX8_chooseAt_45 : decode cX8_chooseAt 45 = .ok (.istore 5, 2) := by decide +kernel
theorem dX8_chooseAt_47 : decode cX8_chooseAt 47 = .ok (.iconst 0, 1) := by decide +kernel
theorem dX8_chooseAt_48 : decode cX8_chooseAt 48 = .ok (.istore 6, 2) := by decide +kernel
theorem dX8_chooseAt_50 : decode cX8_chooseAt 50 = .ok (.aload_n 0, 1) := by decide +kernel
theorem dX8_chooseAt_51 : decode cX8_chooseAt 51 = .ok (.getfield 30, 3) := by decide +kernel
theorem dX8_chooseAt_54 : decode cX8_chooseAt 54 = .ok (.iload 4, 2) := by decide +kernel
theorem dX8_chooseAt_56 : decode cX8_chooseAt 56 = .ok (.iaload, 1) := by decide +kernel
theorem dX8_chooseAt_57 : decode cX8_chooseAt 57 = .ok (.bipush 8, 2) := by decide +kernel
theorem dX8_chooseAt_59 : decode cX8_chooseAt 59 = .ok (.ishl, 1) := by decide +kernel
theorem dX8_chooseAt_60 : decode cX8_chooseAt 60 = .ok (.iload 5, 2) := by decide +kernel
theorem dX8_chooseAt_62 : decode cX8_chooseAt 62 = .ok (.aload_n 0, 1) := by decide +kernel
theorem dX8_chooseAt_63 : decode cX8_chooseAt 63 = .ok (.getfield 27, 3) := by decide +kernel
theorem dX8_chooseAt_66 : decode cX8_chooseAt 66 = .ok (.iload 4, 2) := by decide +kernel
theorem dX8_chooseAt_68 : decode cX8_chooseAt 68 = .ok (.iaload, 1) := by decide +kernel
theorem dX8_chooseAt_69 : decode cX8_chooseAt 69 = .ok (.imul, 1) := by decide +kernel
theorem dX8_chooseAt_70 : decode cX8_chooseAt 70 = .ok (.isub, 1) := by decide +kernel
theorem dX8_chooseAt_71 : decode cX8_chooseAt 71 = .ok (.istore 7, 2) := by decide +kernel
theorem dX8_chooseAt_73 : decode cX8_chooseAt 73 = .ok (.iconst 1, 1) := by decide +kernel
theorem dX8_chooseAt_74 : decode cX8_chooseAt 74 = .ok (.istore 8, 2) := by decide +kernel
theorem dX8_chooseAt_76 : decode cX8_chooseAt 76 = .ok (.iload 8, 2) := by decide +kernel
theorem dX8_chooseAt_78 : decode cX8_chooseAt 78 = .ok (.aload_n 0, 1) := by decide +kernel
theorem dX8_chooseAt_79 : decode cX8_chooseAt 79 = .ok (.getfield 24, 3) := by decide +kernel
theorem dX8_chooseAt_82 : decode cX8_chooseAt 82 = .ok (.iload_n 3, 1) := by decide +kernel
theorem dX8_chooseAt_83 : decode cX8_chooseAt 83 = .ok (.iaload, 1) := by decide +kernel
theorem dX8_chooseAt_84 : decode cX8_chooseAt 84 = .ok (.if_icmp .ge 53, 3) := by decide +kernel
theorem dX8_chooseAt_87 : decode cX8_chooseAt 87 = .ok (.aload_n 0, 1) := by decide +kernel
theorem dX8_chooseAt_88 : decode cX8_chooseAt 88 = .ok (.getfield 30, 3) := by decide +kernel
theorem dX8_chooseAt_91 : decode cX8_chooseAt 91 = .ok (.iload 4, 2) := by decide +kernel
theorem dX8_chooseAt_93 : decode cX8_chooseAt 93 = .ok (.iload 8, 2) := by decide +kernel
theorem dX8_chooseAt_95 : decode cX8_chooseAt 95 = .ok (.iadd, 1) := by decide +kernel
theorem dX8_chooseAt_96 : decode cX8_chooseAt 96 = .ok (.iaload, 1) := by decide +kernel
theorem dX8_chooseAt_97 : decode cX8_chooseAt 97 = .ok (.bipush 8, 2) := by decide +kernel
theorem dX8_chooseAt_99 : decode cX8_chooseAt 99 = .ok (.ishl, 1) := by decide +kernel
theorem dX8_chooseAt_100 : decode cX8_chooseAt 100 = .ok (.iload 5, 2) := by decide +kernel
theorem dX8_chooseAt_102 : decode cX8_chooseAt 102 = .ok (.aload_n 0, 1) := by decide +kernel
theorem dX8_chooseAt_103 : decode cX8_chooseAt 103 = .ok (.getfield 27, 3) := by decide +kernel
theorem dX8_chooseAt_106 : decode cX8_chooseAt 106 = .ok (.iload 4, 2) := by decide +kernel
theorem dX8_chooseAt_108 : decode cX8_chooseAt 108 = .ok (.iload 8, 2) := by decide +kernel
theorem dX8_chooseAt_110 : decode cX8_chooseAt 110 = .ok (.iadd, 1) := by decide +kernel
theorem dX8_chooseAt_111 : decode cX8_chooseAt 111 = .ok (.iaload, 1) := by decide +kernel
theorem dX8_chooseAt_112 : decode cX8_chooseAt 112 = .ok (.imul, 1) := by decide +kernel
theorem dX8_chooseAt_113 : decode cX8_chooseAt 113 = .ok (.isub, 1) := by decide +kernel
theorem dX8_chooseAt_114 : decode cX8_chooseAt 114 = .ok (.istore 9, 2) := by decide +kernel
theorem dX8_chooseAt_116 : decode cX8_chooseAt 116 = .ok (.iload 9, 2) := by decide +kernel
theorem dX8_chooseAt_118 : decode cX8_chooseAt 118 = .ok (.iload 7, 2) := by decide +kernel
theorem dX8_chooseAt_120 : decode cX8_chooseAt 120 = .ok (.if_icmp .le 11, 3) := by decide +kernel
theorem dX8_chooseAt_123 : decode cX8_chooseAt 123 = .ok (.iload 9, 2) := by decide +kernel
theorem dX8_chooseAt_125 : decode cX8_chooseAt 125 = .ok (.istore 7, 2) := by decide +kernel
theorem dX8_chooseAt_127 : decode cX8_chooseAt 127 = .ok (.iload 8, 2) := by decide +kernel
theorem dX8_chooseAt_129 : decode cX8_chooseAt 129 = .ok (.istore 6, 2) := by decide +kernel
theorem dX8_chooseAt_131 : decode cX8_chooseAt 131 = .ok (.iinc 8 1, 3) := by decide +kernel
theorem dX8_chooseAt_134 : decode cX8_chooseAt 134 = .ok (.goto (-58), 3) := by decide +kernel
theorem dX8_chooseAt_137 : decode cX8_chooseAt 137 = .ok (.aload_n 0, 1) := by decide +kernel
theorem dX8_chooseAt_138 : decode cX8_chooseAt 138 = .ok (.getfield 36, 3) := by decide +kernel
theorem dX8_chooseAt_141 : decode cX8_chooseAt 141 = .ok (.iload_n 3, 1) := by decide +kernel
theorem dX8_chooseAt_142 : decode cX8_chooseAt 142 = .ok (.iload 6, 2) := by decide +kernel
theorem dX8_chooseAt_144 : decode cX8_chooseAt 144 = .ok (.iastore, 1) := by decide +kernel
theorem dX8_chooseAt_145 : decode cX8_chooseAt 145 = .ok (.aload_n 0, 1) := by decide +kernel
theorem dX8_chooseAt_146 : decode cX8_chooseAt 146 = .ok (.getfield 42, 3) := by decide +kernel
theorem dX8_chooseAt_149 : decode cX8_chooseAt 149 = .ok (.iload_n 3, 1) := by decide +kernel
theorem dX8_chooseAt_150 : decode cX8_chooseAt 150 = .ok (.aload_n 0, 1) := by decide +kernel
theorem dX8_chooseAt_151 : decode cX8_chooseAt 151 = .ok (.getfield 42, 3) := by decide +kernel
theorem dX8_chooseAt_154 : decode cX8_chooseAt 154 = .ok (.iload_n 3, 1) := by decide +kernel
theorem dX8_chooseAt_155 : decode cX8_chooseAt 155 = .ok (.iconst 1, 1) := by decide +kernel
theorem dX8_chooseAt_156 : decode cX8_chooseAt 156 = .ok (.iadd, 1) := by decide +kernel
theorem dX8_chooseAt_157 : decode cX8_chooseAt 157 = .ok (.iaload, 1) := by decide +kernel
theorem dX8_chooseAt_158 : decode cX8_chooseAt 158 = .ok (.iload 7, 2) := by decide +kernel
theorem dX8_chooseAt_160 : decode cX8_chooseAt 160 = .ok (.iadd, 1) := by decide +kernel
theorem dX8_chooseAt_161 : decode cX8_chooseAt 161 = .ok (.iastore, 1) := by decide +kernel
theorem dX8_chooseAt_162 : decode cX8_chooseAt 162 = .ok (.iload_n 2, 1) := by decide +kernel
theorem dX8_chooseAt_163 : decode cX8_chooseAt 163 = .ok (.aload_n 0, 1) := by decide +kernel
theorem dX8_chooseAt_164 : decode cX8_chooseAt 164 = .ok (.getfield 11, 3) := by decide +kernel
theorem dX8_chooseAt_167 : decode cX8_chooseAt 167 = .ok (.iload_n 3, 1) := by decide +kernel
theorem dX8_chooseAt_168 : decode cX8_chooseAt 168 = .ok (.iaload, 1) := by decide +kernel
theorem dX8_chooseAt_169 : decode cX8_chooseAt 169 = .ok (.aload_n 0, 1) := by decide +kernel
theorem dX8_chooseAt_170 : decode cX8_chooseAt 170 = .ok (.getfield 27, 3) := by decide +kernel
theorem dX8_chooseAt_173 : decode cX8_chooseAt 173 = .ok (.iload 4, 2) := by decide +kernel
theorem dX8_chooseAt_175 : decode cX8_chooseAt 175 = .ok (.iload 6, 2) := by decide +kernel
theorem dX8_chooseAt_177 : decode cX8_chooseAt 177 = .ok (.iadd, 1) := by decide +kernel
theorem dX8_chooseAt_178 : decode cX8_chooseAt 178 = .ok (.iaload, 1) := by decide +kernel
theorem dX8_chooseAt_179 : decode cX8_chooseAt 179 = .ok (.imul, 1) := by decide +kernel
theorem dX8_chooseAt_180 : decode cX8_chooseAt 180 = .ok (.iadd, 1) := by decide +kernel
theorem dX8_chooseAt_181 : decode cX8_chooseAt 181 = .ok (.istore_n 2, 1) := by decide +kernel
theorem dX8_chooseAt_182 : decode cX8_chooseAt 182 = .ok (.iinc 3 (-1), 3) := by decide +kernel
theorem dX8_chooseAt_185 : decode cX8_chooseAt 185 = .ok (.goto (-161), 3) := by decide +kernel
theorem dX8_chooseAt_188 : decode cX8_chooseAt 188 = .ok (.iload_n 2, 1) := by decide +kernel
theorem dX8_chooseAt_189 : decode cX8_chooseAt 189 = .ok (.ireturn, 1) := by decide +kernel
theorem dX8_startGreedily_0 : decode cX8_startGreedily 0 = .ok (.iconst 0, 1) := by decide +kernel
theorem dX8_startGreedily_1 : decode cX8_startGreedily 1 = .ok (.istore_n 1, 1) := by decide +kernel
theorem dX8_startGreedily_2 : decode cX8_startGreedily 2 = .ok (.iload_n 1, 1) := by decide +kernel
theorem dX8_startGreedily_3 : decode cX8_startGreedily 3 = .ok (.aload_n 0, 1) := by decide +kernel
theorem dX8_startGreedily_4 : decode cX8_startGreedily 4 = .ok (.getfield 51, 3) := by decide +kernel
theorem dX8_startGreedily_7 : decode cX8_startGreedily 7 = .ok (.if_icmp .ge 41, 3) := by decide +kernel
theorem dX8_startGreedily_10 : decode cX8_startGreedily 10 = .ok (.aload_n 0, 1) := by decide +kernel
theorem dX8_startGreedily_11 : decode cX8_startGreedily 11 = .ok (.getfield 36, 3) := by decide +kernel
theorem dX8_startGreedily_14 : decode cX8_startGreedily 14 = .ok (.iload_n 1, 1) := by decide +kernel
theorem dX8_startGreedily_15 : decode cX8_startGreedily 15 = .ok (.aload_n 0, 1) := by decide +kernel
theorem dX8_startGreedily_16 : decode cX8_startGreedily 16 = .ok (.getfield 36, 3) := by decide +kernel
theorem dX8_startGreedily_19 : decode cX8_startGreedily 19 = .ok (.iload_n 1, 1) := by decide +kernel
theorem dX8_startGreedily_20 : decode cX8_startGreedily 20 = .ok (.iaload, 1) := by decide +kernel
theorem dX8_startGreedily_21 : decode cX8_startGreedily 21 = .ok (.aload_n 0, 1) := by decide +kernel
theorem dX8_startGreedily_22 : decode cX8_startGreedily 22 = .ok (.iload_n 1, 1) := by decide +kernel
theorem dX8_startGreedily_23 : decode cX8_startGreedily 23 = .ok (.invokevirtual 132, 3) := by decide +kernel
theorem dX8_startGreedily_26 : decode cX8_startGreedily 26 = .ok (.invokestatic 65, 3) := by decide +kernel
theorem dX8_startGreedily_29 : decode cX8_startGreedily 29 = .ok (.iastore, 1) := by decide +kernel
theorem dX8_startGreedily_30 : decode cX8_startGreedily 30 = .ok (.aload_n 0, 1) := by decide +kernel
theorem dX8_startGreedily_31 : decode cX8_startGreedily 31 = .ok (.iload_n 1, 1) := by decide +kernel
theorem dX8_startGreedily_32 : decode cX8_startGreedily 32 = .ok (.aload_n 0, 1) := by decide +kernel
theorem dX8_startGreedily_33 : decode cX8_startGreedily 33 = .ok (.getfield 36, 3) := by decide +kernel
theorem dX8_startGreedily_36 : decode cX8_startGreedily 36 = .ok (.iload_n 1, 1) := by decide +kernel
theorem dX8_startGreedily_37 : decode cX8_startGreedily 37 = .ok (.iaload, 1) := by decide +kernel
theorem dX8_startGreedily_38 : decode cX8_startGreedily 38 = .ok (.iconst 1, 1) := by decide +kernel
theorem dX8_startGreedily_39 : decode cX8_startGreedily 39 = .ok (.invokevirtual 135, 3) := by decide +kernel
theorem dX8_startGreedily_42 : decode cX8_startGreedily 42 = .ok (.iinc 1 1, 3) := by decide +kernel
theorem dX8_startGreedily_45 : decode cX8_startGreedily 45 = .ok (.goto (-43), 3) := by decide +kernel
theorem dX8_startGreedily_48 : decode cX8_startGreedily 48 = .ok (.aload_n 0, 1) := by decide +kernel
theorem dX8_startGreedily_49 : decode cX8_startGreedily 49 = .ok (.iconst (-1), 1) := by decide +kernel
theorem dX8_startGreedily_50 : decode cX8_startGreedily 50 = .ok (.putfield 122, 3) := by decide +kernel
theorem dX8_startGreedily_53 : decode cX8_startGreedily 53 = .ok (.iconst 0, 1) := by decide +kernel
theorem dX8_startGreedily_54 : decode cX8_startGreedily 54 = .ok (.istore_n 1, 1) := by decide +kernel
theorem dX8_startGreedily_55 : decode cX8_startGreedily 55 = .ok (.iload_n 1, 1) := by decide +kernel
theorem dX8_startGreedily_56 : decode cX8_startGreedily 56 = .ok (.aload_n 0, 1) := by decide +kernel
theorem dX8_startGreedily_57 : decode cX8_startGreedily 57 = .ok (.getfield 51, 3) := by decide +kernel
theorem dX8_startGreedily_60 : decode cX8_startGreedily 60 = .ok (.if_icmp .ge 69, 3) := by decide +kernel
theorem dX8_startGreedily_63 : decode cX8_startGreedily 63 = .ok (.aload_n 0, 1) := by decide +kernel
theorem dX8_startGreedily_64 : decode cX8_startGreedily 64 = .ok (.iload_n 1, 1) := by decide +kernel
theorem dX8_startGreedily_65 : decode cX8_startGreedily 65 = .ok (.aload_n 0, 1) := by decide +kernel
theorem dX8_startGreedily_66 : decode cX8_startGreedily 66 = .ok (.getfield 36, 3) := by decide +kernel
theorem dX8_startGreedily_69 : decode cX8_startGreedily 69 = .ok (.iload_n 1, 1) := by decide +kernel
theorem dX8_startGreedily_70 : decode cX8_startGreedily 70 = .ok (.iaload, 1) := by decide +kernel
theorem dX8_startGreedily_71 : decode cX8_startGreedily 71 = .ok (.iconst (-1), 1) := by decide +kernel
theorem dX8_startGreedily_72 : decode cX8_startGreedily 72 = .ok (.invokevirtual 135, 3) := by decide +kernel
theorem dX8_startGreedily_75 : decode cX8_startGreedily 75 = .ok (.aload_n 0, 1) := by decide +kernel
theorem dX8_startGreedily_76 : decode cX8_startGreedily 76 = .ok (.getfield 36, 3) := by decide +kernel
theorem dX8_startGreedily_79 : decode cX8_startGreedily 79 = .ok (.iload_n 1, 1) := by decide +kernel
theorem dX8_startGreedily_80 : decode cX8_startGreedily 80 = .ok (.aload_n 0, 1) := by decide +kernel
theorem dX8_startGreedily_81 : decode cX8_startGreedily 81 = .ok (.iload_n 1, 1) := by decide +kernel
theorem dX8_startGreedily_82 : decode cX8_startGreedily 82 = .ok (.invokevirtual 132, 3) := by decide +kernel
theorem dX8_startGreedily_85 : decode cX8_startGreedily 85 = .ok (.iastore, 1) := by decide +kernel
theorem dX8_startGreedily_86 : decode cX8_startGreedily 86 = .ok (.aload_n 0, 1) := by decide +kernel
theorem dX8_startGreedily_87 : decode cX8_startGreedily 87 = .ok (.iload_n 1, 1) := by decide +kernel
theorem dX8_startGreedily_88 : decode cX8_startGreedily 88 = .ok (.aload_n 0, 1) := by decide +kernel
theorem dX8_startGreedily_89 : decode cX8_startGreedily 89 = .ok (.getfield 36, 3) := by decide +kernel
theorem dX8_startGreedily_92 : decode cX8_startGreedily 92 = .ok (.iload_n 1, 1) := by decide +kernel
theorem dX8_startGreedily_93 : decode cX8_startGreedily 93 = .ok (.iaload, 1) := by decide +kernel
theorem dX8_startGreedily_94 : decode cX8_startGreedily 94 = .ok (.iconst 1, 1) := by decide +kernel
theorem dX8_startGreedily_95 : decode cX8_startGreedily 95 = .ok (.invokevirtual 135, 3) := by decide +kernel
theorem dX8_startGreedily_98 : decode cX8_startGreedily 98 = .ok (.aload_n 0, 1) := by decide +kernel
theorem dX8_startGreedily_99 : decode cX8_startGreedily 99 = .ok (.dup, 1) := by decide +kernel
theorem dX8_startGreedily_100 : decode cX8_startGreedily 100 = .ok (.getfield 122, 3) := by decide +kernel
theorem dX8_startGreedily_103 : decode cX8_startGreedily 103 = .ok (.aload_n 0, 1) := by decide +kernel
theorem dX8_startGreedily_104 : decode cX8_startGreedily 104 = .ok (.getfield 30, 3) := by decide +kernel
theorem dX8_startGreedily_107 : decode cX8_startGreedily 107 = .ok (.iload_n 1, 1) := by decide +kernel
theorem dX8_startGreedily_108 : decode cX8_startGreedily 108 = .ok (.bipush 21, 2) := by decide +kernel
theorem dX8_startGreedily_110 : decode cX8_startGreedily 110 = .ok (.imul, 1) := by decide +kernel
theorem dX8_startGreedily_111 : decode cX8_startGreedily 111 = .ok (.aload_n 0, 1) := by decide +kernel
theorem dX8_startGreedily_112 : decode cX8_startGreedily 112 = .ok (.getfield 36, 3) := by decide +kernel
theorem dX8_startGreedily_115 : decode cX8_startGreedily 115 = .ok (.iload_n 1, 1) := by decide +kernel
theorem dX8_startGreedily_116 : decode cX8_startGreedily 116 = .ok (.iaload, 1) := by decide +kernel
theorem dX8_startGreedily_117 : decode cX8_startGreedily 117 = .ok (.iadd, 1) := by decide +kernel
theorem dX8_startGreedily_118 : decode cX8_startGreedily 118 = .ok (.iaload, 1) := by decide +kernel
theorem dX8_startGreedily_119 : decode cX8_startGreedily 119 = .ok (.iadd, 1) := by decide +kernel
theorem dX8_startGreedily_120 : decode cX8_startGreedily 120 = .ok (.putfield 122, 3) := by decide +kernel
theorem dX8_startGreedily_123 : decode cX8_startGreedily 123 = .ok (.iinc 1 1, 3) := by decide +kernel
theorem dX8_startGreedily_126 : decode cX8_startGreedily 126 = .ok (.goto (-71), 3) := by decide +kernel
theorem dX8_startGreedily_129 : decode cX8_startGreedily 129 = .ok (.iconst 0, 1) := by decide +kernel
theorem dX8_startGreedily_130 : decode cX8_startGreedily 130 = .ok (.istore_n 1, 1) := by decide +kernel
theorem dX8_startGreedily_131 : decode cX8_startGreedily 131 = .ok (.iload_n 1, 1) := by decide +kernel
theorem dX8_startGreedily_132 : decode cX8_startGreedily 132 = .ok (.aload_n 0, 1) := by decide +kernel
theorem dX8_startGreedily_133 : decode cX8_startGreedily 133 = .ok (.getfield 51, 3) := by decide +kernel
theorem dX8_startGreedily_136 : decode cX8_startGreedily 136 = .ok (.if_icmp .ge 21, 3) := by decide +kernel
theorem dX8_startGreedily_139 : decode cX8_startGreedily 139 = .ok (.aload_n 0, 1) := by decide +kernel
theorem dX8_startGreedily_140 : decode cX8_startGreedily 140 = .ok (.iload_n 1, 1) := by decide +kernel
theorem dX8_startGreedily_141 : decode cX8_startGreedily 141 = .ok (.aload_n 0, 1) := by decide +kernel
theorem dX8_startGreedily_142 : decode cX8_startGreedily 142 = .ok (.getfield 36, 3) := by decide +kernel
theorem dX8_startGreedily_145 : decode cX8_startGreedily 145 = .ok (.iload_n 1, 1) := by decide +kernel
theorem dX8_startGreedily_146 : decode cX8_startGreedily 146 = .ok (.iaload, 1) := by decide +kernel
theorem dX8_startGreedily_147 : decode cX8_startGreedily 147 = .ok (.iconst (-1), 1) := by decide +kernel
theorem dX8_startGreedily_148 : decode cX8_startGreedily 148 = .ok (.invokevirtual 135, 3) := by decide +kernel
theorem dX8_startGreedily_151 : decode cX8_startGreedily 151 = .ok (.iinc 1 1, 3) := by decide +kernel
theorem dX8_startGreedily_154 : decode cX8_startGreedily 154 = .ok (.goto (-23), 3) := by decide +kernel
theorem dX8_startGreedily_157 : decode cX8_startGreedily 157 = .ok (.return_, 1) := by decide +kernel
theorem dX8_take_0 : decode cX8_take 0 = .ok (.iload_n 3, 1) := by decide +kernel
theorem dX8_take_1 : decode cX8_take 1 = .ok (.aload_n 0, 1) := by decide +kernel
theorem dX8_take_2 : decode cX8_take 2 = .ok (.getfield 27, 3) := by decide +kernel
theorem dX8_take_5 : decode cX8_take 5 = .ok (.iload_n 1, 1) := by decide +kernel
theorem dX8_take_6 : decode cX8_take 6 = .ok (.bipush 21, 2) := by decide +kernel
theorem dX8_take_8 : decode cX8_take 8 = .ok (.imul, 1) := by decide +kernel
theorem dX8_take_9 : decode cX8_take 9 = .ok (.iload_n 2, 1) := by decide +kernel
theorem dX8_take_10 : decode cX8_take 10 = .ok (.iadd, 1) := by decide +kernel
theorem dX8_take_11 : decode cX8_take 11 = .ok (.iaload, 1) := by decide +kernel
theorem dX8_take_12 : decode cX8_take 12 = .ok (.imul, 1) := by decide +kernel
theorem dX8_take_13 : decode cX8_take 13 = .ok (.istore 4, 2) := by decide +kernel
theorem dX8_take_15 : decode cX8_take 15 = .ok (.iconst 0, 1) := by decide +kernel
theorem dX8_take_16 : decode cX8_take 16 = .ok (.istore 5, 2) := by decide +kernel
theorem dX8_take_18 : decode cX8_take 18 = .ok (.iload 5, 2) := by decide +kernel
theorem dX8_take_20 : decode cX8_take 20 = .ok (.aload_n 0, 1) := by decide +kernel
theorem dX8_take_21 : decode cX8_take 21 = .ok (.getfield 52, 3) := by decide +kernel
theorem dX8_take_24 : decode cX8_take 24 = .ok (.if_icmp .ge 33, 3) := by decide +kernel
theorem dX8_take_27 : decode cX8_take 27 = .ok (.aload_n 0, 1) := by decide +kernel
theorem dX8_take_28 : decode cX8_take 28 = .ok (.getfield 15, 3) := by decide +kernel
theorem dX8_take_31 : decode cX8_take 31 = .ok (.iload 5, 2) := by decide +kernel
theorem dX8_take_33 : decode cX8_take 33 = .ok (.dup2, 1) := by decide +kernel
theorem dX8_take_34 : decode cX8_take 34 = .ok (.iaload, 1) := by decide +kernel
theorem dX8_take_35 : decode cX8_take 35 = .ok (.aload_n 0, 1) := by decide +kernel
theorem dX8_take_36 : decode cX8_take 36 = .ok (.getfield 11, 3) := by decide +kernel
theorem dX8_take_39 : decode cX8_take 39 = .ok (.iload 5, 2) := by decide +kernel
theorem dX8_take_41 : decode cX8_take 41 = .ok (.iconst 4, 1) := by decide +kernel
theorem dX8_take_42 : decode cX8_take 42 = .ok (.imul, 1) := by decide +kernel
theorem dX8_take_43 : decode cX8_take 43 = .ok (.iload_n 1, 1) := by decide +kernel
theorem dX8_take_44 : decode cX8_take 44 = .ok (.iadd, 1) := by decide +kernel
theorem dX8_take_45 : decode cX8_take 45 = .ok (.iaload, 1) := by decide +kernel
theorem dX8_take_46 : decode cX8_take 46 = .ok (.iload 4, 2) := by decide +kernel
theorem dX8_take_48 : decode cX8_take 48 = .ok (.imul, 1) := by decide +kernel
theorem dX8_take_49 : decode cX8_take 49 = .ok (.isub, 1) := by decide +kernel
theorem dX8_take_50 : decode cX8_take 50 = .ok (.iastore, 1) := by decide +kernel
theorem dX8_take_51 : decode cX8_take 51 = .ok (.iinc 5 1, 3) := by decide +kernel
theorem dX8_take_54 : decode cX8_take 54 = .ok (.goto (-36), 3) := by decide +kernel
theorem dX8_take_57 : decode cX8_take 57 = .ok (.return_, 1) := by decide +kernel
theorem dX8_highestStair_0 : decode cX8_highestStair 0 = .ok (.aload_n 0, 1) := by decide +kernel
theorem dX8_highestStair_1 : decode cX8_highestStair 1 = .ok (.getfield 21, 3) := by decide +kernel
theorem dX8_highestStair_4 : decode cX8_highestStair 4 = .ok (.iload_n 1, 1) := by decide +kernel
theorem dX8_highestStair_5 : decode cX8_highestStair 5 = .ok (.iaload, 1) := by decide +kernel
theorem dX8_highestStair_6 : decode cX8_highestStair 6 = .ok (.aload_n 0, 1) := by decide +kernel
theorem dX8_highestStair_7 : decode cX8_highestStair 7 = .ok (.getfield 18, 3) := by decide +kernel
theorem dX8_highestStair_10 : decode cX8_highestStair 10 = .ok (.iload_n 1, 1) := by decide +kernel
theorem dX8_highestStair_11 : decode cX8_highestStair 11 = .ok (.iaload, 1) := by decide +kernel
theorem dX8_highestStair_12 : decode cX8_highestStair 12 = .ok (.isub, 1) := by decide +kernel
theorem dX8_highestStair_13 : decode cX8_highestStair 13 = .ok (.istore_n 2, 1) := by decide +kernel
theorem dX8_highestStair_14 : decode cX8_highestStair 14 = .ok (.iconst 0, 1) := by decide +kernel
theorem dX8_highestStair_15 : decode cX8_highestStair 15 = .ok (.istore_n 3, 1) := by decide +kernel
theorem dX8_highestStair_16 : decode cX8_highestStair 16 = .ok (.iload_n 3, 1) := by decide +kernel
theorem dX8_highestStair_17 : decode cX8_highestStair 17 = .ok (.aload_n 0, 1) := by decide +kernel
theorem dX8_highestStair_18 : decode cX8_highestStair 18 = .ok (.getfield 52, 3) := by decide +kernel
theorem dX8_highestStair_21 : decode cX8_highestStair 21 = .ok (.if_icmp .ge 40, 3) := by decide +kernel
theorem dX8_highestStair_24 : decode cX8_highestStair 24 = .ok (.aload_n 0, 1) := by decide +kernel
theorem dX8_highestStair_25 : decode cX8_highestStair 25 = .ok (.getfield 11, 3) := by decide +kernel
theorem dX8_highestStair_28 : decode cX8_highestStair 28 = .ok (.iload_n 3, 1) := by decide +kernel
theorem dX8_highestStair_29 : decode cX8_highestStair 29 = .ok (.iconst 4, 1) := by decide +kernel
theorem dX8_highestStair_30 : decode cX8_highestStair 30 = .ok (.imul, 1) := by decide +kernel
theorem dX8_highestStair_31 : decode cX8_highestStair 31 = .ok (.iload_n 1, 1) := by decide +kernel
theorem dX8_highestStair_32 : decode cX8_highestStair 32 = .ok (.iadd, 1) := by decide +kernel
theorem dX8_highestStair_33 : decode cX8_highestStair 33 = .ok (.iaload, 1) := by decide +kernel
theorem dX8_highestStair_34 : decode cX8_highestStair 34 = .ok (.istore 4, 2) := by decide +kernel
theorem dX8_highestStair_36 : decode cX8_highestStair 36 = .ok (.iload 4, 2) := by decide +kernel
theorem dX8_highestStair_38 : decode cX8_highestStair 38 = .ok (.ifCond .le 17, 3) := by decide +kernel
theorem dX8_highestStair_41 : decode cX8_highestStair 41 = .ok (.iload_n 2, 1) := by decide +kernel
theorem dX8_highestStair_42 : decode cX8_highestStair 42 = .ok (.aload_n 0, 1) := by decide +kernel
theorem dX8_highestStair_43 : decode cX8_highestStair 43 = .ok (.getfield 15, 3) := by decide +kernel
theorem dX8_highestStair_46 : decode cX8_highestStair 46 = .ok (.iload_n 3, 1) := by decide +kernel
theorem dX8_highestStair_47 : decode cX8_highestStair 47 = .ok (.iaload, 1) := by decide +kernel
theorem dX8_highestStair_48 : decode cX8_highestStair 48 = .ok (.iload 4, 2) := by decide +kernel
theorem dX8_highestStair_50 : decode cX8_highestStair 50 = .ok (.idiv, 1) := by decide +kernel
theorem dX8_highestStair_51 : decode cX8_highestStair 51 = .ok (.invokestatic 65, 3) := by decide +kernel
theorem dX8_highestStair_54 : decode cX8_highestStair 54 = .ok (.istore_n 2, 1) := by decide +kernel
theorem dX8_highestStair_55 : decode cX8_highestStair 55 = .ok (.iinc 3 1, 3) := by decide +kernel
theorem dX8_highestStair_58 : decode cX8_highestStair 58 = .ok (.goto (-42), 3) := by decide +kernel
theorem dX8_highestStair_61 : decode cX8_highestStair 61 = .ok (.aload_n 0, 1) := by decide +kernel
theorem dX8_highestStair_62 : decode cX8_highestStair 62 = .ok (.getfield 33, 3) := by decide +kernel
theorem dX8_highestStair_65 : decode cX8_highestStair 65 = .ok (.iload_n 1, 1) := by decide +kernel
theorem dX8_highestStair_66 : decode cX8_highestStair 66 = .ok (.bipush 21, 2) := by decide +kernel
theorem dX8_highestStair_68 : decode cX8_highestStair 68 = .ok (.imul, 1) := by decide +kernel
theorem dX8_highestStair_69 : decode cX8_highestStair 69 = .ok (.iconst 0, 1) := by decide +kernel
theorem dX8_highestStair_70 : decode cX8_highestStair 70 = .ok (.iload_n 2, 1) := by decide +kernel
theorem dX8_highestStair_71 : decode cX8_highestStair 71 = .ok (.invokestatic 81, 3) := by decide +kernel
theorem dX8_highestStair_74 : decode cX8_highestStair 74 = .ok (.iadd, 1) := by decide +kernel
theorem dX8_highestStair_75 : decode cX8_highestStair 75 = .ok (.iaload, 1) := by decide +kernel
theorem dX8_highestStair_76 : decode cX8_highestStair 76 = .ok (.ireturn, 1) := by decide +kernel
theorem dX8_descend_0 : decode cX8_descend 0 = .ok (.aload_n 0, 1) := by decide +kernel
theorem dX8_descend_1 : decode cX8_descend 1 = .ok (.iload_n 1, 1) := by decide +kernel
theorem dX8_descend_2 : decode cX8_descend 2 = .ok (.invokevirtual 132, 3) := by decide +kernel
theorem dX8_descend_5 : decode cX8_descend 5 = .ok (.istore_n 3, 1) := by decide +kernel
theorem dX8_descend_6 : decode cX8_descend 6 = .ok (.iload_n 1, 1) := by decide +kernel
theorem dX8_descend_7 : decode cX8_descend 7 = .ok (.aload_n 0, 1) := by decide +kernel
theorem dX8_descend_8 : decode cX8_descend 8 = .ok (.getfield 51, 3) := by decide +kernel
theorem dX8_descend_11 : decode cX8_descend 11 = .ok (.iconst 1, 1) := by decide +kernel
theorem dX8_descend_12 : decode cX8_descend 12 = .ok (.isub, 1) := by decide +kernel
theorem dX8_descend_13 : decode cX8_descend 13 = .ok (.if_icmp .lt 11, 3) := by decide +kernel
theorem dX8_descend_16 : decode cX8_descend 16 = .ok (.aload_n 0, 1) := by decide +kernel
theorem dX8_descend_17 : decode cX8_descend 17 = .ok (.iload_n 1, 1) := by decide +kernel
theorem dX8_descend_18 : decode cX8_descend 18 = .ok (.iload_n 3, 1) := by decide +kernel
theorem dX8_descend_19 : decode cX8_descend 19 = .ok (.iload_n 2, 1) := by decide +kernel
theorem dX8_descend_20 : decode cX8_descend 20 = .ok (.invokevirtual 139, 3) := by decide +kernel
theorem dX8_descend_23 : decode cX8_descend 23 = .ok (.return_, 1) := by decide +kernel
theorem dX8_descend_24 : decode cX8_descend 24 = .ok (.iload_n 1, 1) := by decide +kernel
theorem dX8_descend_25 : decode cX8_descend 25 = .ok (.bipush 21, 2) := by decide +kernel
theorem dX8_descend_27 : decode cX8_descend 27 = .ok (.imul, 1) := by decide +kernel
theorem dX8_descend_28 : decode cX8_descend 28 = .ok (.istore 4, 2) := by decide +kernel
theorem dX8_descend_30 : decode cX8_descend 30 = .ok (.iconst 0, 1) := by decide +kernel
theorem dX8_descend_31 : decode cX8_descend 31 = .ok (.istore 5, 2) := by decide +kernel
theorem dX8_descend_33 : decode cX8_descend 33 = .ok (.iload 5, 2) := by decide +kernel
theorem dX8_descend_35 : decode cX8_descend 35 = .ok (.iload_n 3, 1) := by decide +kernel
theorem dX8_descend_36 : decode cX8_descend 36 = .ok (.if_icmp .gt 115, 3) := by decide +kernel
theorem dX8_descend_39 : decode cX8_descend 39 = .ok (.iload_n 2, 1) := by decide +kernel
theorem dX8_descend_40 : decode cX8_descend 40 = .ok (.aload_n 0, 1) := by decide +kernel
theorem dX8_descend_41 : decode cX8_descend 41 = .ok (.getfield 30, 3) := by decide +kernel
theorem dX8_descend_44 : decode cX8_descend 44 = .ok (.iload 4, 2) := by decide +kernel
theorem dX8_descend_46 : decode cX8_descend 46 = .ok (.iload 5, 2) := by decide +kernel
theorem dX8_descend_48 : decode cX8_descend 48 = .ok (.iadd, 1) := by decide +kernel
theorem dX8_descend_49 : decode cX8_descend 49 = .ok (.iaload, 1) := by decide +kernel
theorem dX8_descend_50 : decode cX8_descend 50 = .ok (.iadd, 1) := by decide +kernel
theorem dX8_descend_51 : decode cX8_descend 51 = .ok (.istore 6, 2) := by decide +kernel
theorem dX8_descend_53 : decode cX8_descend 53 = .ok (.aload_n 0, 1) := by decide +kernel
theorem dX8_descend_54 : decode cX8_descend 54 = .ok (.getfield 15, 3) := by decide +kernel
theorem dX8_descend_57 : decode cX8_descend 57 = .ok (.iconst 0, 1) := by decide +kernel
theorem dX8_descend_58 : decode cX8_descend 58 = .ok (.iaload, 1) := by decide +kernel
theorem dX8_descend_59 : decode cX8_descend 59 = .ok (.aload_n 0, 1) := by decide +kernel
theorem dX8_descend_60 : decode cX8_descend 60 = .ok (.getfield 11, 3) := by decide +kernel
theorem dX8_descend_63 : decode cX8_descend 63 = .ok (.iload_n 1, 1) := by decide +kernel
theorem dX8_descend_64 : decode cX8_descend 64 = .ok (.iaload, 1) := by decide +kernel
theorem dX8_descend_65 : decode cX8_descend 65 = .ok (.aload_n 0, 1) := by decide +kernel
theorem dX8_descend_66 : decode cX8_descend 66 = .ok (.getfield 27, 3) := by decide +kernel
theorem dX8_descend_69 : decode cX8_descend 69 = .ok (.iload 4, 2) := by decide +kernel
theorem dX8_descend_71 : decode cX8_descend 71 = .ok (.iload 5, 2) := by decide +kernel
theorem dX8_descend_73 : decode cX8_descend 73 = .ok (.iadd, 1) := by decide +kernel
theorem dX8_descend_74 : decode cX8_descend 74 = .ok (.iaload, 1) := by decide +kernel
theorem dX8_descend_75 : decode cX8_descend 75 = .ok (.imul, 1) := by decide +kernel
theorem dX8_descend_76 : decode cX8_descend 76 = .ok (.isub, 1) := by decide +kernel
theorem dX8_descend_77 : decode cX8_descend 77 = .ok (.istore 7, 2) := by decide +kernel
theorem dX8_descend_79 : decode cX8_descend 79 = .ok (.iload 6, 2) := by decide +kernel
theorem dX8_descend_81 : decode cX8_descend 81 = .ok (.aload_n 0, 1) := by decide +kernel
theorem dX8_descend_82 : decode cX8_descend 82 = .ok (.getfield 122, 3) := by decide +kernel
theorem dX8_descend_85 : decode cX8_descend 85 = .ok (.isub, 1) := by decide +kernel
theorem dX8_descend_86 : decode cX8_descend 86 = .ok (.bipush 8, 2) := by decide +kernel
theorem dX8_descend_88 : decode cX8_descend 88 = .ok (.ishl, 1) := by decide +kernel
theorem dX8_descend_89 : decode cX8_descend 89 = .ok (.aload_n 0, 1) := by decide +kernel
theorem dX8_descend_90 : decode cX8_descend 90 = .ok (.getfield 42, 3) := by decide +kernel
theorem dX8_descend_93 : decode cX8_descend 93 = .ok (.iload_n 1, 1) := by decide +kernel
theorem dX8_descend_94 : decode cX8_descend 94 = .ok (.iconst 1, 1) := by decide +kernel
theorem dX8_descend_95 : decode cX8_descend 95 = .ok (.iadd, 1) := by decide +kernel
theorem dX8_descend_96 : decode cX8_descend 96 = .ok (.iaload, 1) := by decide +kernel
theorem dX8_descend_97 : decode cX8_descend 97 = .ok (.iadd, 1) := by decide +kernel
theorem dX8_descend_98 : decode cX8_descend 98 = .ok (.aload_n 0, 1) := by decide +kernel
theorem dX8_descend_99 : decode cX8_descend 99 = .ok (.getfield 112, 3) := by decide +kernel
theorem dX8_descend_102 : decode cX8_descend 102 = .ok (.iload 7, 2) := by decide +kernel
theorem dX8_descend_104 : decode cX8_descend 104 = .ok (.imul, 1) := by decide +kernel
theorem dX8_descend_105 : decode cX8_descend 105 = .ok (.iadd, 1) := by decide +kernel
theorem dX8_descend_106 : decode cX8_descend 106 = .ok (.sipush 256, 3) := by decide +kernel
theorem dX8_descend_109 : decode cX8_descend 109 = .ok (.if_icmp .lt 36, 3) := by decide +kernel
theorem dX8_descend_112 : decode cX8_descend 112 = .ok (.aload_n 0, 1) := by decide +kernel
theorem dX8_descend_113 : decode cX8_descend 113 = .ok (.getfield 36, 3) := by decide +kernel
theorem dX8_descend_116 : decode cX8_descend 116 = .ok (.iload_n 1, 1) := by decide +kernel
theorem dX8_descend_117 : decode cX8_descend 117 = .ok (.iload 5, 2) := by decide +kernel
theorem dX8_descend_119 : decode cX8_descend 119 = .ok (.iastore, 1) := by decide +kernel
theorem dX8_descend_120 : decode cX8_descend 120 = .ok (.aload_n 0, 1) := by decide +kernel
theorem dX8_descend_121 : decode cX8_descend 121 = .ok (.iload_n 1, 1) := by decide +kernel
theorem dX8_descend_122 : decode cX8_descend 122 = .ok (.iload 5, 2) := by decide +kernel
theorem dX8_descend_124 : decode cX8_descend 124 = .ok (.iconst 1, 1) := by decide +kernel
theorem dX8_descend_125 : decode cX8_descend 125 = .ok (.invokevirtual 135, 3) := by decide +kernel
theorem dX8_descend_128 : decode cX8_descend 128 = .ok (.aload_n 0, 1) := by decide +kernel
theorem dX8_descend_129 : decode cX8_descend 129 = .ok (.iload_n 1, 1) := by decide +kernel
theorem dX8_descend_130 : decode cX8_descend 130 = .ok (.iconst 1, 1) := by decide +kernel
theorem dX8_descend_131 : decode cX8_descend 131 = .ok (.iadd, 1) := by decide +kernel
theorem dX8_descend_132 : decode cX8_descend 132 = .ok (.iload 6, 2) := by decide +kernel
theorem dX8_descend_134 : decode cX8_descend 134 = .ok (.invokevirtual 118, 3) := by decide +kernel
theorem dX8_descend_137 : decode cX8_descend 137 = .ok (.aload_n 0, 1) := by decide +kernel
theorem dX8_descend_138 : decode cX8_descend 138 = .ok (.iload_n 1, 1) := by decide +kernel
theorem dX8_descend_139 : decode cX8_descend 139 = .ok (.iload 5, 2) := by decide +kernel
theorem dX8_descend_141 : decode cX8_descend 141 = .ok (.iconst (-1), 1) := by decide +kernel
theorem dX8_descend_142 : decode cX8_descend 142 = .ok (.invokevirtual 135, 3) := by decide +kernel
theorem dX8_descend_145 : decode cX8_descend 145 = .ok (.iinc 5 1, 3) := by decide +kernel
theorem dX8_descend_148 : decode cX8_descend 148 = .ok (.goto (-115), 3) := by decide +kernel
theorem dX8_descend_151 : decode cX8_descend 151 = .ok (.return_, 1) := by decide +kernel
theorem dX8_end_0 : decode cX8_end 0 = .ok (.iload_n 3, 1) := by decide +kernel
theorem dX8_end_1 : decode cX8_end 1 = .ok (.aload_n 0, 1) := by decide +kernel
theorem dX8_end_2 : decode cX8_end 2 = .ok (.getfield 30, 3) := by decide +kernel
theorem dX8_end_5 : decode cX8_end 5 = .ok (.iload_n 1, 1) := by decide +kernel
theorem dX8_end_6 : decode cX8_end 6 = .ok (.bipush 21, 2) := by decide +kernel
theorem dX8_end_8 : decode cX8_end 8 = .ok (.imul, 1) := by decide +kernel
theorem dX8_end_9 : decode cX8_end 9 = .ok (.iload_n 2, 1) := by decide +kernel
theorem dX8_end_10 : decode cX8_end 10 = .ok (.iadd, 1) := by decide +kernel
theorem dX8_end_11 : decode cX8_end 11 = .ok (.iaload, 1) := by decide +kernel
theorem dX8_end_12 : decode cX8_end 12 = .ok (.iadd, 1) := by decide +kernel
theorem dX8_end_13 : decode cX8_end 13 = .ok (.istore 4, 2) := by decide +kernel
theorem dX8_end_15 : decode cX8_end 15 = .ok (.iload 4, 2) := by decide +kernel
theorem dX8_end_17 : decode cX8_end 17 = .ok (.aload_n 0, 1) := by decide +kernel
theorem dX8_end_18 : decode cX8_end 18 = .ok (.getfield 122, 3) := by decide +kernel
theorem dX8_end_21 : decode cX8_end 21 = .ok (.if_icmp .le 30, 3) := by decide +kernel
theorem dX8_end_24 : decode cX8_end 24 = .ok (.aload_n 0, 1) := by decide +kernel
theorem dX8_end_25 : decode cX8_end 25 = .ok (.iload 4, 2) := by decide +kernel
theorem dX8_end_27 : decode cX8_end 27 = .ok (.putfield 122, 3) := by decide +kernel
theorem dX8_end_30 : decode cX8_end 30 = .ok (.aload_n 0, 1) := by decide +kernel
theorem dX8_end_31 : decode cX8_end 31 = .ok (.getfield 36, 3) := by decide +kernel
theorem dX8_end_34 : decode cX8_end 34 = .ok (.iload_n 1, 1) := by decide +kernel
theorem dX8_end_35 : decode cX8_end 35 = .ok (.iload_n 2, 1) := by decide +kernel
theorem dX8_end_36 : decode cX8_end 36 = .ok (.iastore, 1) := by decide +kernel
theorem dX8_end_37 : decode cX8_end 37 = .ok (.aload_n 0, 1) := by decide +kernel
theorem dX8_end_38 : decode cX8_end 38 = .ok (.getfield 36, 3) := by decide +kernel
theorem dX8_end_41 : decode cX8_end 41 = .ok (.iconst 0, 1) := by decide +kernel
theorem dX8_end_42 : decode cX8_end 42 = .ok (.aload_n 0, 1) := by decide +kernel
theorem dX8_end_43 : decode cX8_end 43 = .ok (.getfield 39, 3) := by decide +kernel
theorem dX8_end_46 : decode cX8_end 46 = .ok (.iconst 0, 1) := by decide +kernel
theorem dX8_end_47 : decode cX8_end 47 = .ok (.iconst 4, 1) := by decide +kernel
theorem dX8_end_48 : decode cX8_end 48 = .ok (.invokestatic 142, 3) := by decide +kernel
theorem dX8_end_51 : decode cX8_end 51 = .ok (.return_, 1) := by decide +kernel
theorem dX8_count_0 : decode cX8_count 0 = .ok (.aload_n 0, 1) := by decide +kernel
theorem dX8_count_1 : decode cX8_count 1 = .ok (.iconst 0, 1) := by decide +kernel
theorem dX8_count_2 : decode cX8_count 2 = .ok (.aload_n 0, 1) := by decide +kernel
theorem dX8_count_3 : decode cX8_count 3 = .ok (.getfield 15, 3) := by decide +kernel
theorem dX8_count_6 : decode cX8_count 6 = .ok (.iconst 0, 1) := by decide +kernel
theorem dX8_count_7 : decode cX8_count 7 = .ok (.iaload, 1) := by decide +kernel
theorem dX8_count_8 : decode cX8_count 8 = .ok (.invokevirtual 148, 3) := by decide +kernel
theorem dX8_count_11 : decode cX8_count 11 = .ok (.ireturn, 1) := by decide +kernel
theorem dX8_countFrom_0 : decode cX8_countFrom 0 = .ok (.aload_n 0, 1) := by decide +kernel
theorem dX8_countFrom_1 : decode cX8_countFrom 1 = .ok (.getfield 11, 3) := by decide +kernel
theorem dX8_countFrom_4 : decode cX8_countFrom 4 = .ok (.iload_n 1, 1) := by decide +kernel
theorem dX8_countFrom_5 : decode cX8_countFrom 5 = .ok (.iaload, 1) := by decide +kernel
theorem dX8_countFrom_6 : decode cX8_countFrom 6 = .ok (.istore_n 3, 1) := by decide +kernel
theorem dX8_countFrom_7 : decode cX8_countFrom 7 = .ok (.iload_n 1, 1) := by decide +kernel
theorem dX8_countFrom_8 : decode cX8_countFrom 8 = .ok (.aload_n 0, 1) := by decide +kernel
theorem dX8_countFrom_9 : decode cX8_countFrom 9 = .ok (.getfield 51, 3) := by decide +kernel
theorem dX8_countFrom_12 : decode cX8_countFrom 12 = .ok (.iconst 1, 1) := by decide +kernel
theorem dX8_countFrom_13 : decode cX8_countFrom 13 = .ok (.isub, 1) := by decide +kernel
theorem dX8_countFrom_14 : decode cX8_countFrom 14 = .ok (.if_icmp .lt 7, 3) := by decide +kernel
theorem dX8_countFrom_17 : decode cX8_countFrom 17 = .ok (.iconst 1, 1) := by decide +kernel
theorem dX8_countFrom_18 : decode cX8_countFrom 18 = .ok (.goto 4, 3) := by decide +kernel
theorem dX8_countFrom_21 : decode cX8_countFrom 21 = .ok (.iconst 0, 1) := by decide +kernel
theorem dX8_countFrom_22 : decode cX8_countFrom 22 = .ok (.istore 4, 2) := by decide +kernel
theorem dX8_countFrom_24 : decode cX8_countFrom 24 = .ok (.iload_n 3, 1) := by decide +kernel
theorem dX8_countFrom_25 : decode cX8_countFrom 25 = .ok (.ifCond .ne 25, 3) := by decide +kernel
theorem dX8_countFrom_28 : decode cX8_countFrom 28 = .ok (.iload 4, 2) := by decide +kernel
theorem dX8_countFrom_30 : decode cX8_countFrom 30 = .ok (.ifCond .eq 8, 3) := by decide +kernel
theorem dX8_countFrom_33 : decode cX8_countFrom 33 = .ok (.bipush 21, 2) := by decide +kernel
theorem dX8_countFrom_35 : decode cX8_countFrom 35 = .ok (.goto 14, 3) := by decide +kernel
theorem dX8_countFrom_38 : decode cX8_countFrom 38 = .ok (.bipush 21, 2) := by decide +kernel
theorem dX8_countFrom_40 : decode cX8_countFrom 40 = .ok (.aload_n 0, 1) := by decide +kernel
theorem dX8_countFrom_41 : decode cX8_countFrom 41 = .ok (.iload_n 1, 1) := by decide +kernel
theorem dX8_countFrom_42 : decode cX8_countFrom 42 = .ok (.iconst 1, 1) := by decide +kernel
theorem dX8_countFrom_43 : decode cX8_countFrom 43 = .ok (.iadd, 1) := by decide +kernel
theorem dX8_countFrom_44 : decode cX8_countFrom 44 = .ok (.iload_n 2, 1) := by decide +kernel
theorem dX8_countFrom_45 : decode cX8_countFrom 45 = .ok (.invokevirtual 148, 3) := by decide +kernel
theorem dX8_countFrom_48 : decode cX8_countFrom 48 = .ok (.imul, 1) := by decide +kernel
theorem dX8_countFrom_49 : decode cX8_countFrom 49 = .ok (.ireturn, 1) := by decide +kernel
theorem dX8_countFrom_50 : decode cX8_countFrom 50 = .ok (.bipush 20, 2) := by decide +kernel
theorem dX8_countFrom_52 : decode cX8_countFrom 52 = .ok (.iload_n 2, 1) := by decide +kernel
theorem dX8_countFrom_53 : decode cX8_countFrom 53 = .ok (.iload_n 3, 1) := by decide +kernel
theorem dX8_countFrom_54 : decode cX8_countFrom 54 = .ok (.idiv, 1) := by decide +kernel
theorem dX8_countFrom_55 : decode cX8_countFrom 55 = .ok (.invokestatic 65, 3) := by decide +kernel
theorem dX8_countFrom_58 : decode cX8_countFrom 58 = .ok (.istore 5, 2) := by decide +kernel
theorem dX8_countFrom_60 : decode cX8_countFrom 60 = .ok (.iload 4, 2) := by decide +kernel
theorem dX8_countFrom_62 : decode cX8_countFrom 62 = .ok (.ifCond .eq 8, 3) := by decide +kernel
theorem dX8_countFrom_65 : decode cX8_countFrom 65 = .ok (.iload 5, 2) := by decide +kernel
theorem dX8_countFrom_67 : decode cX8_countFrom 67 = .ok (.iconst 1, 1) := by decide +kernel
theorem dX8_countFrom_68 : decode cX8_countFrom 68 = .ok (.iadd, 1) := by decide +kernel
theorem dX8_countFrom_69 : decode cX8_countFrom 69 = .ok (.ireturn, 1) := by decide +kernel
theorem dX8_countFrom_70 : decode cX8_countFrom 70 = .ok (.iconst 0, 1) := by decide +kernel
theorem dX8_countFrom_71 : decode cX8_countFrom 71 = .ok (.istore 6, 2) := by decide +kernel
theorem dX8_countFrom_73 : decode cX8_countFrom 73 = .ok (.iconst 0, 1) := by decide +kernel
theorem dX8_countFrom_74 : decode cX8_countFrom 74 = .ok (.istore 7, 2) := by decide +kernel
theorem dX8_countFrom_76 : decode cX8_countFrom 76 = .ok (.iload 7, 2) := by decide +kernel
theorem dX8_countFrom_78 : decode cX8_countFrom 78 = .ok (.iload 5, 2) := by decide +kernel
theorem dX8_countFrom_80 : decode cX8_countFrom 80 = .ok (.if_icmp .gt 27, 3) := by decide +kernel
theorem dX8_countFrom_83 : decode cX8_countFrom 83 = .ok (.iload 6, 2) := by decide +kernel
theorem dX8_countFrom_85 : decode cX8_countFrom 85 = .ok (.aload_n 0, 1) := by decide +kernel
theorem dX8_countFrom_86 : decode cX8_countFrom 86 = .ok (.iload_n 1, 1) := by decide +kernel
theorem dX8_countFrom_87 : decode cX8_countFrom 87 = .ok (.iconst 1, 1) := by decide +kernel
theorem dX8_countFrom_88 : decode cX8_countFrom 88 = .ok (.iadd, 1) := by decide +kernel
theorem dX8_countFrom_89 : decode cX8_countFrom 89 = .ok (.iload_n 2, 1) := by decide +kernel
theorem dX8_countFrom_90 : decode cX8_countFrom 90 = .ok (.iload 7, 2) := by decide +kernel
theorem dX8_countFrom_92 : decode cX8_countFrom 92 = .ok (.iload_n 3, 1) := by decide +kernel
theorem dX8_countFrom_93 : decode cX8_countFrom 93 = .ok (.imul, 1) := by decide +kernel
theorem dX8_countFrom_94 : decode cX8_countFrom 94 = .ok (.isub, 1) := by decide +kernel
theorem dX8_countFrom_95 : decode cX8_countFrom 95 = .ok (.invokevirtual 148, 3) := by decide +kernel
theorem dX8_countFrom_98 : decode cX8_countFrom 98 = .ok (.iadd, 1) := by decide +kernel
theorem dX8_countFrom_99 : decode cX8_countFrom 99 = .ok (.istore 6, 2) := by decide +kernel
theorem dX8_countFrom_101 : decode cX8_countFrom 101 = .ok (.iinc 7 1, 3) := by decide +kernel
theorem dX8_countFrom_104 : decode cX8_countFrom 104 = .ok (.goto (-28), 3) := by decide +kernel
theorem dX8_countFrom_107 : decode cX8_countFrom 107 = .ok (.iload 6, 2) := by decide +kernel
theorem dX8_countFrom_109 : decode cX8_countFrom 109 = .ok (.ireturn, 1) := by decide +kernel
theorem dX9_init_0 : decode cX9_init 0 = .ok (.aload_n 0, 1) := by decide +kernel
theorem dX9_init_1 : decode cX9_init 1 = .ok (.invokespecial 3, 3) := by decide +kernel
theorem dX9_init_4 : decode cX9_init 4 = .ok (.aload_n 0, 1) := by decide +kernel
theorem dX9_init_5 : decode cX9_init 5 = .ok (.bipush 8, 2) := by decide +kernel
theorem dX9_init_7 : decode cX9_init 7 = .ok (.newarray .long, 2) := by decide +kernel
theorem dX9_init_9 : decode cX9_init 9 = .ok (.putfield 11, 3) := by decide +kernel
theorem dX9_init_12 : decode cX9_init 12 = .ok (.aload_n 0, 1) := by decide +kernel
theorem dX9_init_13 : decode cX9_init 13 = .ok (.bipush 24, 2) := by decide +kernel
theorem dX9_init_15 : decode cX9_init 15 = .ok (.newarray .int, 2) := by decide +kernel
theorem dX9_init_17 : decode cX9_init 17 = .ok (.putfield 15, 3) := by decide +kernel
theorem dX9_init_20 : decode cX9_init 20 = .ok (.aload_n 0, 1) := by decide +kernel
theorem dX9_init_21 : decode cX9_init 21 = .ok (.bipush 16, 2) := by decide +kernel
theorem dX9_init_23 : decode cX9_init 23 = .ok (.newarray .int, 2) := by decide +kernel
theorem dX9_init_25 : decode cX9_init 25 = .ok (.putfield 19, 3) := by decide +kernel
theorem dX9_init_28 : decode cX9_init 28 = .ok (.aload_n 0, 1) := by decide +kernel
theorem dX9_init_29 : decode cX9_init 29 = .ok (.iconst 4, 1) := by decide +kernel
theorem dX9_init_30 : decode cX9_init 30 = .ok (.newarray .int, 2) := by decide +kernel
theorem dX9_init_32 : decode cX9_init 32 = .ok (.putfield 22, 3) := by decide +kernel
theorem dX9_init_35 : decode cX9_init 35 = .ok (.aload_n 0, 1) := by decide +kernel
theorem dX9_init_36 : decode cX9_init 36 = .ok (.bipush 84, 2) := by decide +kernel
theorem dX9_init_38 : decode cX9_init 38 = .ok (.newarray .int, 2) := by decide +kernel
theorem dX9_init_40 : decode cX9_init 40 = .ok (.putfield 25, 3) := by decide +kernel
theorem dX9_init_43 : decode cX9_init 43 = .ok (.aload_n 0, 1) := by decide +kernel
theorem dX9_init_44 : decode cX9_init 44 = .ok (.bipush 84, 2) := by decide +kernel
theorem dX9_init_46 : decode cX9_init 46 = .ok (.newarray .int, 2) := by decide +kernel
theorem dX9_init_48 : decode cX9_init 48 = .ok (.putfield 28, 3) := by decide +kernel
theorem dX9_init_51 : decode cX9_init 51 = .ok (.aload_n 0, 1) := by decide +kernel
theorem dX9_init_52 : decode cX9_init 52 = .ok (.bipush 84, 2) := by decide +kernel
theorem dX9_init_54 : decode cX9_init 54 = .ok (.newarray .int, 2) := by decide +kernel
theorem dX9_init_56 : decode cX9_init 56 = .ok (.putfield 31, 3) := by decide +kernel
theorem dX9_init_59 : decode cX9_init 59 = .ok (.return_, 1) := by decide +kernel
theorem dX9_clear_0 : decode cX9_clear 0 = .ok (.aload_n 0, 1) := by decide +kernel
theorem dX9_clear_1 : decode cX9_clear 1 = .ok (.iconst 0, 1) := by decide +kernel
theorem dX9_clear_2 : decode cX9_clear 2 = .ok (.putfield 34, 3) := by decide +kernel
theorem dX9_clear_5 : decode cX9_clear 5 = .ok (.aload_n 0, 1) := by decide +kernel
theorem dX9_clear_6 : decode cX9_clear 6 = .ok (.iconst 0, 1) := by decide +kernel
theorem dX9_clear_7 : decode cX9_clear 7 = .ok (.putfield 38, 3) := by decide +kernel
theorem dX9_clear_10 : decode cX9_clear 10 = .ok (.iconst 0, 1) := by decide +kernel
theorem dX9_clear_11 : decode cX9_clear 11 = .ok (.istore_n 1, 1) := by decide +kernel
theorem dX9_clear_12 : decode cX9_clear 12 = .ok (.iload_n 1, 1) := by decide +kernel
theorem dX9_clear_13 : decode cX9_clear 13 = .ok (.bipush 24, 2) := by decide +kernel
theorem dX9_clear_15 : decode cX9_clear 15 = .ok (.if_icmp .ge 16, 3) := by decide +kernel
theorem dX9_clear_18 : decode cX9_clear 18 = .ok (.aload_n 0, 1) := by decide +kernel
theorem dX9_clear_19 : decode cX9_clear 19 = .ok (.getfield 15, 3) := by decide +kernel
theorem dX9_clear_22 : decode cX9_clear 22 = .ok (.iload_n 1, 1) := by decide +kernel
theorem dX9_clear_23 : decode cX9_clear 23 = .ok (.iconst 0, 1) := by decide +kernel
theorem dX9_clear_24 : decode cX9_clear 24 = .ok (.iastore, 1) := by decide +kernel
theorem dX9_clear_25 : decode cX9_clear 25 = .ok (.iinc 1 1, 3) := by decide +kernel
theorem dX9_clear_28 : decode cX9_clear 28 = .ok (.goto (-16), 3) := by decide +kernel
theorem dX9_clear_31 : decode cX9_clear 31 = .ok (.iconst 0, 1) := by decide +kernel
theorem dX9_clear_32 : decode cX9_clear 32 = .ok (.istore_n 1, 1) := by decide +kernel
theorem dX9_clear_33 : decode cX9_clear 33 = .ok (.iload_n 1, 1) := by decide +kernel
theorem dX9_clear_34 : decode cX9_clear 34 = .ok (.iconst 4, 1) := by decide +kernel
theorem dX9_clear_35 : decode cX9_clear 35 = .ok (.if_icmp .ge 26, 3) := by decide +kernel
theorem dX9_clear_38 : decode cX9_clear 38 = .ok (.aload_n 0, 1) := by decide +kernel
theorem dX9_clear_39 : decode cX9_clear 39 = .ok (.getfield 22, 3) := by decide +kernel
theorem dX9_clear_42 : decode cX9_clear 42 = .ok (.iload_n 1, 1) := by decide +kernel
theorem dX9_clear_43 : decode cX9_clear 43 = .ok (.iload_n 1, 1) := by decide +kernel
theorem dX9_clear_44 : decode cX9_clear 44 = .ok (.iconst 2, 1) := by decide +kernel
theorem dX9_clear_45 : decode cX9_clear 45 = .ok (.if_icmp .ne 8, 3) := by decide +kernel
theorem dX9_clear_48 : decode cX9_clear 48 = .ok (.bipush 10, 2) := by decide +kernel
theorem dX9_clear_50 : decode cX9_clear 50 = .ok (.goto 4, 3) := by decide +kernel
theorem dX9_clear_53 : decode cX9_clear 53 = .ok (.iconst 0, 1) := by decide +kernel
theorem dX9_clear_54 : decode cX9_clear 54 = .ok (.iastore, 1) := by decide +kernel
theorem dX9_clear_55 : decode cX9_clear 55 = .ok (.iinc 1 1, 3) := by decide +kernel
theorem dX9_clear_58 : decode cX9_clear 58 = .ok (.goto (-25), 3) := by decide +kernel
theorem dX9_clear_61 : decode cX9_clear 61 = .ok (.return_, 1) := by decide +kernel
theorem dX9_mostOfRule_0 : decode cX9_mostOfRule 0 = .ok (.iload_n 0, 1) := by decide +kernel
theorem dX9_mostOfRule_1 : decode cX9_mostOfRule 1 = .ok (.iconst 2, 1) := by decide +kernel
theorem dX9_mostOfRule_2 : decode cX9_mostOfRule 2 = .ok (.if_icmp .ne 8, 3) := by decide +kernel
theorem dX9_mostOfRule_5 : decode cX9_mostOfRule 5 = .ok (.bipush 100, 2) := by decide +kernel
theorem dX9_mostOfRule_7 : decode cX9_mostOfRule 7 = .ok (.goto 15, 3) := by decide +kernel
theorem dX9_mostOfRule_10 : decode cX9_mostOfRule 10 = .ok (.iload_n 0, 1) := by decide +kernel
theorem dX9_mostOfRule_11 : decode cX9_mostOfRule 11 = .ok (.iconst 3, 1) := by decide +kernel
theorem dX9_mostOfRule_12 : decode cX9_mostOfRule 12 = .ok (.if_icmp .ne 8, 3) := by decide +kernel
theorem dX9_mostOfRule_15 : decode cX9_mostOfRule 15 = .ok (.bipush 99, 2) := by decide +kernel
theorem dX9_mostOfRule_17 : decode cX9_mostOfRule 17 = .ok (.goto 5, 3) := by decide +kernel
theorem dX9_mostOfRule_20 : decode cX9_mostOfRule 20 = .ok (.bipush 50, 2) := by decide +kernel
theorem dX9_mostOfRule_22 : decode cX9_mostOfRule 22 = .ok (.ireturn, 1) := by decide +kernel
theorem dX9_mostOfValue_0 : decode cX9_mostOfValue 0 = .ok (.iload_n 0, 1) := by decide +kernel
theorem dX9_mostOfValue_1 : decode cX9_mostOfValue 1 = .ok (.tableswitch 45 1 5 #[35, 39, 45, 42, 42], 35) := by decide +kernel
theorem dX9_mostOfValue_36 : decode cX9_mostOfValue 36 = .ok (.sipush 200, 3) := by decide +kernel
theorem dX9_mostOfValue_39 : decode cX9_mostOfValue 39 = .ok (.ireturn, 1) := by decide +kernel
theorem dX9_mostOfValue_40 : decode cX9_mostOfValue 40 = .ok (.bipush 9, 2) := by decide +kernel
theorem dX9_mostOfValue_42 : decode cX9_mostOfValue 42 = .ok (.ireturn, 1) := by decide +kernel
theorem dX9_mostOfValue_43 : decode cX9_mostOfValue 43 = .ok (.bipush 99, 2) := by decide +kernel
theorem dX9_mostOfValue_45 : decode cX9_mostOfValue 45 = .ok (.ireturn, 1) := by decide +kernel
theorem dX9_mostOfValue_46 : decode cX9_mostOfValue 46 = .ok (.bipush 20, 2) := by decide +kernel
theorem dX9_mostOfValue_48 : decode cX9_mostOfValue 48 = .ok (.ireturn, 1) := by decide +kernel
theorem dX9_valueOf_0 : decode cX9_valueOf 0 = .ok (.aload_n 0, 1) := by decide +kernel
theorem dX9_valueOf_1 : decode cX9_valueOf 1 = .ok (.getfield 15, 3) := by decide +kernel
theorem dX9_valueOf_4 : decode cX9_valueOf 4 = .ok (.iload_n 1, 1) := by decide +kernel
theorem dX9_valueOf_5 : decode cX9_valueOf 5 = .ok (.iconst 4, 1) := by decide +kernel
theorem dX9_valueOf_6 : decode cX9_valueOf 6 = .ok (.imul, 1) := by decide +kernel
theorem dX9_valueOf_7 : decode cX9_valueOf 7 = .ok (.iload_n 2, 1) := by decide +kernel
theorem dX9_valueOf_8 : decode cX9_valueOf 8 = .ok (.iadd, 1) := by decide +kernel
theorem dX9_valueOf_9 : decode cX9_valueOf 9 = .ok (.iaload, 1) := by decide +kernel
theorem dX9_valueOf_10 : decode cX9_valueOf 10 = .ok (.ireturn, 1) := by decide +kernel
theorem dX9_lengthOf_0 : decode cX9_lengthOf 0 = .ok (.iconst 0, 1) := by decide +kernel
theorem dX9_lengthOf_1 : decode cX9_lengthOf 1 = .ok (.istore_n 2, 1) := by decide +kernel
theorem dX9_lengthOf_2 : decode cX9_lengthOf 2 = .ok (.iconst 0, 1) := by decide +kernel
theorem dX9_lengthOf_3 : decode cX9_lengthOf 3 = .ok (.istore_n 3, 1) := by decide +kernel
theorem dX9_lengthOf_4 : decode cX9_lengthOf 4 = .ok (.iload_n 3, 1) := by decide +kernel
theorem dX9_lengthOf_5 : decode cX9_lengthOf 5 = .ok (.bipush 7, 2) := by decide +kernel
theorem dX9_lengthOf_7 : decode cX9_lengthOf 7 = .ok (.if_icmp .ge 22, 3) := by decide +kernel
theorem dX9_lengthOf_10 : decode cX9_lengthOf 10 = .ok (.lload_n 0, 1) := by decide +kernel
theorem dX9_lengthOf_11 : decode cX9_lengthOf 11 = .ok (.iconst 5, 1) := by decide +kernel
theorem dX9_lengthOf_12 : decode cX9_lengthOf 12 = .ok (.iload_n 3, 1) := by decide +kernel
theorem dX9_lengthOf_13 : decode cX9_lengthOf 13 = .ok (.imul, 1) := by decide +kernel
theorem dX9_lengthOf_14 : decode cX9_lengthOf 14 = .ok (.lushr, 1) := by decide +kernel
theorem dX9_lengthOf_15 : decode cX9_lengthOf 15 = .ok (.lconst 0, 1) := by decide +kernel
theorem dX9_lengthOf_16 : decode cX9_lengthOf 16 = .ok (.lcmp, 1) := by decide +kernel
theorem dX9_lengthOf_17 : decode cX9_lengthOf 17 = .ok (.ifCond .eq 6, 3) := by decide +kernel
theorem dX9_lengthOf_20 : decode cX9_lengthOf 20 = .ok (.iinc 2 1, 3) := by decide +kernel
theorem dX9_lengthOf_23 : decode cX9_lengthOf 23 = .ok (.iinc 3 1, 3) := by decide +kernel
theorem dX9_lengthOf_26 : decode cX9_lengthOf 26 = .ok (.goto (-22), 3) := by decide +kernel
theorem dX9_lengthOf_29 : decode cX9_lengthOf 29 = .ok (.iload_n 2, 1) := by decide +kernel
theorem dX9_lengthOf_30 : decode cX9_lengthOf 30 = .ok (.ireturn, 1) := by decide +kernel
theorem dX9_letterOf_0 : decode cX9_letterOf 0 = .ok (.lload_n 0, 1) := by decide +kernel
theorem dX9_letterOf_1 : decode cX9_letterOf 1 = .ok (.iconst 5, 1) := by decide +kernel
theorem dX9_letterOf_2 : decode cX9_letterOf 2 = .ok (.lload_n 0, 1) := by decide +kernel
theorem dX9_letterOf_3 : decode cX9_letterOf 3 = .ok (.invokestatic 41, 3) := by decide +kernel
theorem dX9_letterOf_6 : decode cX9_letterOf 6 = .ok (.iconst 1, 1) := by decide +kernel
theorem dX9_letterOf_7 : decode cX9_letterOf 7 = .ok (.isub, 1) := by decide +kernel
theorem dX9_letterOf_8 : decode cX9_letterOf 8 = .ok (.iload_n 2, 1) := by decide +kernel
theorem dX9_letterOf_9 : decode cX9_letterOf 9 = .ok (.isub, 1) := by decide +kernel
theorem dX9_letterOf_10 : decode cX9_letterOf 10 = .ok (.imul, 1) := by decide +kernel
theorem dX9_letterOf_11 : decode cX9_letterOf 11 = .ok (.lushr, 1) := by decide +kernel
theorem dX9_letterOf_12 : decode cX9_letterOf 12 = .ok (.ldc2_w 45, 3) := by decide +kernel
theorem dX9_letterOf_15 : decode cX9_letterOf 15 = .ok (.land, 1) := by decide +kernel
theorem dX9_letterOf_16 : decode cX9_letterOf 16 = .ok (.l2i, 1) := by decide +kernel
theorem dX9_letterOf_17 : decode cX9_letterOf 17 = .ok (.iconst 1, 1) := by decide +kernel
theorem dX9_letterOf_18 : decode cX9_letterOf 18 = .ok (.isub, 1) := by decide +kernel
theorem dX9_letterOf_19 : decode cX9_letterOf 19 = .ok (.ireturn, 1) := by decide +kernel
theorem dX9_hasName_0 : decode cX9_hasName 0 = .ok (.iconst 0, 1) := by decide +kernel
theorem dX9_hasName_1 : decode cX9_hasName 1 = .ok (.istore_n 3, 1) := by decide +kernel
theorem dX9_hasName_2 : decode cX9_hasName 2 = .ok (.iload_n 3, 1) := by decide +kernel
theorem dX9_hasName_3 : decode cX9_hasName 3 = .ok (.aload_n 0, 1) := by decide +kernel
theorem dX9_hasName_4 : decode cX9_hasName 4 = .ok (.getfield 34, 3) := by decide +kernel
theorem dX9_hasName_7 : decode cX9_hasName 7 = .ok (.if_icmp .ge 22, 3) := by decide +kernel
theorem dX9_hasName_10 : decode cX9_hasName 10 = .ok (.aload_n 0, 1) := by decide +kernel
theorem dX9_hasName_11 : decode cX9_hasName 11 = .ok (.getfield 11, 3) := by decide +kernel
theorem dX9_hasName_14 : decode cX9_hasName 14 = .ok (.iload_n 3, 1) := by decide +kernel
theorem dX9_hasName_15 : decode cX9_hasName 15 = .ok (.laload, 1) := by decide +kernel
theorem dX9_hasName_16 : decode cX9_hasName 16 = .ok (.lload_n 1, 1) := by decide +kernel
theorem dX9_hasName_17 : decode cX9_hasName 17 = .ok (.lcmp, 1) := by decide +kernel
theorem dX9_hasName_18 : decode cX9_hasName 18 = .ok (.ifCond .ne 5, 3) := by decide +kernel
theorem dX9_hasName_21 : decode cX9_hasName 21 = .ok (.iconst 1, 1) := by decide +kernel
theorem dX9_hasName_22 : decode cX9_hasName 22 = .ok (.ireturn, 1) := by decide +kernel
theorem dX9_hasName_23 : decode cX9_hasName 23 = .ok (.iinc 3 1, 3) := by decide +kernel
theorem dX9_hasName_26 : decode cX9_hasName 26 = .ok (.goto (-24), 3) := by decide +kernel
theorem dX9_hasName_29 : decode cX9_hasName 29 = .ok (.iconst 0, 1) := by decide +kernel
theorem dX9_hasName_30 : decode cX9_hasName 30 = .ok (.istore_n 3, 1) := by decide +kernel
theorem dX9_hasName_31 : decode cX9_hasName 31 = .ok (.iload_n 3, 1) := by decide +kernel
theorem dX9_hasName_32 : decode cX9_hasName 32 = .ok (.aload_n 0, 1) := by decide +kernel
theorem dX9_hasName_33 : decode cX9_hasName 33 = .ok (.getfield 38, 3) := by decide +kernel
theorem dX9_hasName_36 : decode cX9_hasName 36 = .ok (.if_icmp .ge 24, 3) := by decide +kernel
theorem dX9_hasName_39 : decode cX9_hasName 39 = .ok (.aload_n 0, 1) := by decide +kernel
theorem dX9_hasName_40 : decode cX9_hasName 40 = .ok (.getfield 11, 3) := by decide +kernel
theorem dX9_hasName_43 : decode cX9_hasName 43 = .ok (.iconst 4, 1) := by decide +kernel
theorem dX9_hasName_44 : decode cX9_hasName 44 = .ok (.iload_n 3, 1) := by decide +kernel
theorem dX9_hasName_45 : decode cX9_hasName 45 = .ok (.iadd, 1) := by decide +kernel
theorem dX9_hasName_46 : decode cX9_hasName 46 = .ok (.laload, 1) := by decide +kernel
theorem dX9_hasName_47 : decode cX9_hasName 47 = .ok (.lload_n 1, 1) := by decide +kernel
theorem dX9_hasName_48 : decode cX9_hasName 48 = .ok (.lcmp, 1) := by decide +kernel
theorem dX9_hasName_49 : decode cX9_hasName 49 = .ok (.ifCond .ne 5, 3) := by decide +kernel
theorem dX9_hasName_52 : decode cX9_hasName 52 = .ok (.iconst 1, 1) := by decide +kernel
theorem dX9_hasName_53 : decode cX9_hasName 53 = .ok (.ireturn, 1) := by decide +kernel
theorem dX9_hasName_54 : decode cX9_hasName 54 = .ok (.iinc 3 1, 3) := by decide +kernel
theorem dX9_hasName_57 : decode cX9_hasName 57 = .ok (.goto (-26), 3) := by decide +kernel
theorem dX9_hasName_60 : decode cX9_hasName 60 = .ok (.iconst 0, 1) := by decide +kernel
theorem dX9_hasName_61 : decode cX9_hasName 61 = .ok (.ireturn, 1) := by decide +kernel
theorem dX9_fillTables_0 : decode cX9_fillTables 0 = .ok (.iconst 0, 1) := by decide +kernel
theorem dX9_fillTables_1 : decode cX9_fillTables 1 = .ok (.istore_n 1, 1) := by decide +kernel
theorem dX9_fillTables_2 : decode cX9_fillTables 2 = .ok (.iload_n 1, 1) := by decide +kernel
theorem dX9_fillTables_3 : decode cX9_fillTables 3 = .ok (.aload_n 0, 1) := by decide +kernel
theorem dX9_fillTables_4 : decode cX9_fillTables 4 = .ok (.getfield 34, 3) := by decide +kernel
theorem dX9_fillTables_7 : decode cX9_fillTables 7 = .ok (.if_icmp .ge 104, 3) := by decide +kernel
theorem dX9_fillTables_10 : decode cX9_fillTables 10 = .ok (.iconst 0, 1) := by decide +kernel
theorem dX9_fillTables_11 : decode cX9_fillTables 11 = .ok (.istore_n 2, 1) := by decide +kernel
theorem dX9_fillTables_12 : decode cX9_fillTables 12 = .ok (.bipush 20, 2) := by decide +kernel
theorem dX9_fillTables_14 : decode cX9_fillTables 14 = .ok (.istore_n 3, 1) := by decide +kernel
theorem dX9_fillTables_15 : decode cX9_fillTables 15 = .ok (.iload_n 3, 1) := by decide +kernel
theorem dX9_fillTables_16 : decode cX9_fillTables 16 = .ok (.ifCond .lt 89, 3) := by decide +kernel
theorem dX9_fillTables_19 : decode cX9_fillTables 19 = .ok (.iconst 0, 1) := by decide +kernel
theorem dX9_fillTables_20 : decode cX9_fillTables 20 = .ok (.aload_n 0, 1) := by decide +kernel
theorem dX9_fillTables_21 : decode cX9_fillTables 21 = .ok (.iconst 1, 1) := by decide +kernel
theorem dX9_fillTables_22 : decode cX9_fillTables 22 = .ok (.iload_n 1, 1) := by decide +kernel
theorem dX9_fillTables_23 : decode cX9_fillTables 23 = .ok (.invokevirtual 47, 3) := by decide +kernel
theorem dX9_fillTables_26 : decode cX9_fillTables 26 = .ok (.aload_n 0, 1) := by decide +kernel
theorem dX9_fillTables_27 : decode cX9_fillTables 27 = .ok (.iconst 2, 1) := by decide +kernel
theorem dX9_fillTables_28 : decode cX9_fillTables 28 = .ok (.iload_n 1, 1) := by decide +kernel
theorem dX9_fillTables_29 : decode cX9_fillTables 29 = .ok (.invokevirtual 47, 3) := by decide +kernel
theorem dX9_fillTables_32 : decode cX9_fillTables 32 = .ok (.iload_n 3, 1) := by decide +kernel
theorem dX9_fillTables_33 : decode cX9_fillTables 33 = .ok (.imul, 1) := by decide +kernel
theorem dX9_fillTables_34 : decode cX9_fillTables 34 = .ok (.isub, 1) := by decide +kernel
theorem dX9_fillTables_35 : decode cX9_fillTables 35 = .ok (.invokestatic 51, 3) := by decide +kernel
theorem dX9_fillTables_38 : decode cX9_fillTables 38 = .ok (.istore 4, 2) := by decide +kernel
theorem dX9_fillTables_40 : decode cX9_fillTables 40 = .ok (.iload 4, 2) := by decide +kernel
theorem dX9_fillTables_42 : decode cX9_fillTables 42 = .ok (.iload_n 3, 1) := by decide +kernel
theorem dX9_fillTables_43 : decode cX9_fillTables 43 = .ok (.aload_n 0, 1) := by decide +kernel
theorem dX9_fillTables_44 : decode cX9_fillTables 44 = .ok (.iconst 3, 1) := by decide +kernel
theorem dX9_fillTables_45 : decode cX9_fillTables 45 = .ok (.iload_n 1, 1) := by decide +kernel
theorem dX9_fillTables_46 : decode cX9_fillTables 46 = .ok (.invokevirtual 47, 3) := by decide +kernel
theorem dX9_fillTables_49 : decode cX9_fillTables 49 = .ok (.isub, 1) := by decide +kernel
theorem dX9_fillTables_50 : decode cX9_fillTables 50 = .ok (.imul, 1) := by decide +kernel
theorem dX9_fillTables_51 : decode cX9_fillTables 51 = .ok (.istore 5, 2) := by decide +kernel
theorem dX9_fillTables_53 : decode cX9_fillTables 53 = .ok (.aload_n 0, 1) := by decide +kernel
theorem dX9_fillTables_54 : decode cX9_fillTables 54 = .ok (.getfield 25, 3) := by decide +kernel
theorem dX9_fillTables_57 : decode cX9_fillTables 57 = .ok (.iload_n 1, 1) := by decide +kernel
theorem dX9_fillTables_58 : decode cX9_fillTables 58 = .ok (.bipush 21, 2) := by decide +kernel
theorem dX9_fillTables_60 : decode cX9_fillTables 60 = .ok (.imul, 1) := by decide +kernel
theorem dX9_fillTables_61 : decode cX9_fillTables 61 = .ok (.iload_n 3, 1) := by decide +kernel
theorem dX9_fillTables_62 : decode cX9_fillTables 62 = .ok (.iadd, 1) := by decide +kernel
theorem dX9_fillTables_63 : decode cX9_fillTables 63 = .ok (.iload 4, 2) := by decide +kernel
theorem dX9_fillTables_65 : decode cX9_fillTables 65 = .ok (.iastore, 1) := by decide +kernel
theorem dX9_fillTables_66 : decode cX9_fillTables 66 = .ok (.aload_n 0, 1) := by decide +kernel
theorem dX9_fillTables_67 : decode cX9_fillTables 67 = .ok (.getfield 28, 3) := by decide +kernel
theorem dX9_fillTables_70 : decode cX9_fillTables 70 = .ok (.iload_n 1, 1) := by decide +kernel
theorem dX9_fillTables_71 : decode cX9_fillTables 71 = .ok (.bipush 21, 2) := by decide +kernel
theorem dX9_fillTables_73 : decode cX9_fillTables 73 = .ok (.imul, 1) := by decide +kernel
theorem dX9_fillTables_74 : decode cX9_fillTables 74 = .ok (.iload_n 3, 1) := by decide +kernel
theorem dX9_fillTables_75 : decode cX9_fillTables 75 = .ok (.iadd, 1) := by decide +kernel
theorem dX9_fillTables_76 : decode cX9_fillTables 76 = .ok (.iload 5, 2) := by decide +kernel
theorem dX9_fillTables_78 : decode cX9_fillTables 78 = .ok (.iastore, 1) := by decide +kernel
theorem dX9_fillTables_79 : decode cX9_fillTables 79 = .ok (.aload_n 0, 1) := by decide +kernel
theorem dX9_fillTables_80 : decode cX9_fillTables 80 = .ok (.getfield 31, 3) := by decide +kernel
theorem dX9_fillTables_83 : decode cX9_fillTables 83 = .ok (.iload_n 1, 1) := by decide +kernel
theorem dX9_fillTables_84 : decode cX9_fillTables 84 = .ok (.bipush 21, 2) := by decide +kernel
theorem dX9_fillTables_86 : decode cX9_fillTables 86 = .ok (.imul, 1) := by decide +kernel
theorem dX9_fillTables_87 : decode cX9_fillTables 87 = .ok (.iload_n 3, 1) := by decide +kernel
theorem dX9_fillTables_88 : decode cX9_fillTables 88 = .ok (.iadd, 1) := by decide +kernel
theorem dX9_fillTables_89 : decode cX9_fillTables 89 = .ok (.iload_n 2, 1) := by decide +kernel
theorem dX9_fillTables_90 : decode cX9_fillTables 90 = .ok (.iload 5, 2) := by decide +kernel
theorem dX9_fillTables_92 : decode cX9_fillTables 92 = .ok (.iadd, 1) := by decide +kernel
theorem dX9_fillTables_93 : decode cX9_fillTables 93 = .ok (.iastore, 1) := by decide +kernel
theorem dX9_fillTables_94 : decode cX9_fillTables 94 = .ok (.iload_n 2, 1) := by decide +kernel
theorem dX9_fillTables_95 : decode cX9_fillTables 95 = .ok (.iload 4, 2) := by decide +kernel
theorem dX9_fillTables_97 : decode cX9_fillTables 97 = .ok (.iadd, 1) := by decide +kernel
theorem dX9_fillTables_98 : decode cX9_fillTables 98 = .ok (.istore_n 2, 1) := by decide +kernel
theorem dX9_fillTables_99 : decode cX9_fillTables 99 = .ok (.iinc 3 (-1), 3) := by decide +kernel
theorem dX9_fillTables_102 : decode cX9_fillTables 102 = .ok (.goto (-87), 3) := by decide +kernel
theorem dX9_fillTables_105 : decode cX9_fillTables 105 = .ok (.iinc 1 1, 3) := by decide +kernel
theorem dX9_fillTables_108 : decode cX9_fillTables 108 = .ok (.goto (-106), 3) := by decide +kernel
theorem dX9_fillTables_111 : decode cX9_fillTables 111 = .ok (.return_, 1) := by decide +kernel
theorem dX9_freePrice_0 : decode cX9_freePrice 0 = .ok (.iconst 0, 1) := by decide +kernel
theorem dX9_freePrice_1 : decode cX9_freePrice 1 = .ok (.istore_n 2, 1) := by decide +kernel
theorem dX9_freePrice_2 : decode cX9_freePrice 2 = .ok (.iconst 1, 1) := by decide +kernel
theorem dX9_freePrice_3 : decode cX9_freePrice 3 = .ok (.istore_n 3, 1) := by decide +kernel
theorem dX9_freePrice_4 : decode cX9_freePrice 4 = .ok (.iload_n 3, 1) := by decide +kernel
theorem dX9_freePrice_5 : decode cX9_freePrice 5 = .ok (.bipush 20, 2) := by decide +kernel
theorem dX9_freePrice_7 : decode cX9_freePrice 7 = .ok (.if_icmp .gt 36, 3) := by decide +kernel
theorem dX9_freePrice_10 : decode cX9_freePrice 10 = .ok (.aload_n 0, 1) := by decide +kernel
theorem dX9_freePrice_11 : decode cX9_freePrice 11 = .ok (.getfield 28, 3) := by decide +kernel
theorem dX9_freePrice_14 : decode cX9_freePrice 14 = .ok (.iload_n 1, 1) := by decide +kernel
theorem dX9_freePrice_15 : decode cX9_freePrice 15 = .ok (.bipush 21, 2) := by decide +kernel
theorem dX9_freePrice_17 : decode cX9_freePrice 17 = .ok (.imul, 1) := by decide +kernel
theorem dX9_freePrice_18 : decode cX9_freePrice 18 = .ok (.iload_n 3, 1) := by decide +kernel
theorem dX9_freePrice_19 : decode cX9_freePrice 19 = .ok (.iadd, 1) := by decide +kernel
theorem dX9_freePrice_20 : decode cX9_freePrice 20 = .ok (.iaload, 1) := by decide +kernel
theorem dX9_freePrice_21 : decode cX9_freePrice 21 = .ok (.aload_n 0, 1) := by decide +kernel
theorem dX9_freePrice_22 : decode cX9_freePrice 22 = .ok (.getfield 28, 3) := by decide +kernel
theorem dX9_freePrice_25 : decode cX9_freePrice 25 = .ok (.iload_n 1, 1) := by decide +kernel
theorem dX9_freePrice_26 : decode cX9_freePrice 26 = .ok (.bipush 21, 2) := by decide +kernel
theorem dX9_freePrice_28 : decode cX9_freePrice 28 = .ok (.imul, 1) := by decide +kernel
theorem dX9_freePrice_29 : decode cX9_freePrice 29 = .ok (.iload_n 2, 1) := by decide +kernel
theorem dX9_freePrice_30 : decode cX9_freePrice 30 = .ok (.iadd, 1) := by decide +kernel
theorem dX9_freePrice_31 : decode cX9_freePrice 31 = .ok (.iaload, 1) := by decide +kernel
theorem dX9_freePrice_32 : decode cX9_freePrice 32 = .ok (.if_icmp .le 5, 3) := by decide +kernel
theorem dX9_freePrice_35 : decode cX9_freePrice 35 = .ok (.iload_n 3, 1) := by decide +kernel
theorem dX9_freePrice_36 : decode cX9_freePrice 36 = .ok (.istore_n 2, 1) := by decide +kernel
theorem dX9_freePrice_37 : decode cX9_freePrice 37 = .ok (.iinc 3 1, 3) := by decide +kernel
theorem dX9_freePrice_40 : decode cX9_freePrice 40 = .ok (.goto (-36), 3) := by decide +kernel
theorem dX9_freePrice_43 : decode cX9_freePrice 43 = .ok (.iload_n 2, 1) := by decide +kernel
theorem dX9_freePrice_44 : decode cX9_freePrice 44 = .ok (.ireturn, 1) := by decide +kernel
theorem dX9_together_0 : decode cX9_together 0 = .ok (.iconst 0, 1) := by decide +kernel
theorem dX9_together_1 : decode cX9_together 1 = .ok (.istore_n 3, 1) := by decide +kernel
theorem dX9_together_2 : decode cX9_together 2 = .ok (.iconst 0, 1) := by decide +kernel
theorem dX9_together_3 : decode cX9_together 3 = .ok (.istore 4, 2) := by decide +kernel
theorem dX9_together_5 : decode cX9_together 5 = .ok (.iload 4, 2) := by decide +kernel
theorem dX9_together_7 : decode cX9_together 7 = .ok (.aload_n 0, 1) := by decide +kernel
theorem dX9_together_8 : decode cX9_together 8 = .ok (.getfield 34, 3) := by decide +kernel
theorem dX9_together_11 : decode cX9_together 11 = .ok (.if_icmp .ge 24, 3) := by decide +kernel
theorem dX9_together_14 : decode cX9_together 14 = .ok (.iload_n 3, 1) := by decide +kernel
theorem dX9_together_15 : decode cX9_together 15 = .ok (.aload_n 1, 1) := by decide +kernel
theorem dX9_together_16 : decode cX9_together 16 = .ok (.iload 4, 2) := by decide +kernel
theorem dX9_together_18 : decode cX9_together 18 = .ok (.bipush 21, 2) := by decide +kernel
theorem dX9_together_20 : decode cX9_together 20 = .ok (.imul, 1) := by decide +kernel
theorem dX9_together_21 : decode cX9_together 21 = .ok (.aload_n 2, 1) := by decide +kernel
theorem dX9_together_22 : decode cX9_together 22 = .ok (.iload 4, 2) := by decide +kernel
theorem dX9_together_24 : decode cX9_together 24 = .ok (.iaload, 1) := by decide +kernel
theorem dX9_together_25 : decode cX9_together 25 = .ok (.iadd, 1) := by decide +kernel
theorem dX9_together_26 : decode cX9_together 26 = .ok (.iaload, 1) := by decide +kernel
theorem dX9_together_27 : decode cX9_together 27 = .ok (.iadd, 1) := by decide +kernel
theorem dX9_together_28 : decode cX9_together 28 = .ok (.istore_n 3, 1) := by decide +kernel
theorem dX9_together_29 : decode cX9_together 29 = .ok (.iinc 4 1, 3) := by decide +kernel
theorem dX9_together_32 : decode cX9_together 32 = .ok (.goto (-27), 3) := by decide +kernel
theorem dX9_together_35 : decode cX9_together 35 = .ok (.iload_n 3, 1) := by decide +kernel
theorem dX9_together_36 : decode cX9_together 36 = .ok (.ireturn, 1) := by decide +kernel
theorem dX9_costing_0 : decode cX9_costing 0 = .ok (.iconst 0, 1) := by decide +kernel
theorem dX9_costing_1 : decode cX9_costing 1 = .ok (.istore_n 3, 1) := by decide +kernel
theorem dX9_costing_2 : decode cX9_costing 2 = .ok (.iconst 0, 1) := by decide +kernel
theorem dX9_costing_3 : decode cX9_costing 3 = .ok (.istore 4, 2) := by decide +kernel
theorem dX9_costing_5 : decode cX9_costing 5 = .ok (.iload 4, 2) := by decide +kernel
theorem dX9_costing_7 : decode cX9_costing 7 = .ok (.aload_n 0, 1) := by decide +kernel
theorem dX9_costing_8 : decode cX9_costing 8 = .ok (.getfield 34, 3) := by decide +kernel
theorem dX9_costing_11 : decode cX9_costing 11 = .ok (.if_icmp .ge 32, 3) := by decide +kernel
theorem dX9_costing_14 : decode cX9_costing 14 = .ok (.iload_n 3, 1) := by decide +kernel
theorem dX9_costing_15 : decode cX9_costing 15 = .ok (.aload_n 1, 1) := by decide +kernel
theorem dX9_costing_16 : decode cX9_costing 16 = .ok (.iload 4, 2) := by decide +kernel
theorem dX9_costing_18 : decode cX9_costing 18 = .ok (.iaload, 1) := by decide +kernel
theorem dX9_costing_19 : decode cX9_costing 19 = .ok (.aload_n 0, 1) := by decide +kernel
theorem dX9_costing_20 : decode cX9_costing 20 = .ok (.getfield 25, 3) := by decide +kernel
theorem dX9_costing_23 : decode cX9_costing 23 = .ok (.iload 4, 2) := by decide +kernel
theorem dX9_costing_25 : decode cX9_costing 25 = .ok (.bipush 21, 2) := by decide +kernel
theorem dX9_costing_27 : decode cX9_costing 27 = .ok (.imul, 1) := by decide +kernel
theorem dX9_costing_28 : decode cX9_costing 28 = .ok (.aload_n 2, 1) := by decide +kernel
theorem dX9_costing_29 : decode cX9_costing 29 = .ok (.iload 4, 2) := by decide +kernel
theorem dX9_costing_31 : decode cX9_costing 31 = .ok (.iaload, 1) := by decide +kernel
theorem dX9_costing_32 : decode cX9_costing 32 = .ok (.iadd, 1) := by decide +kernel
theorem dX9_costing_33 : decode cX9_costing 33 = .ok (.iaload, 1) := by decide +kernel
theorem dX9_costing_34 : decode cX9_costing 34 = .ok (.imul, 1) := by decide +kernel
theorem dX9_costing_35 : decode cX9_costing 35 = .ok (.iadd, 1) := by decide +kernel
theorem dX9_costing_36 : decode cX9_costing 36 = .ok (.istore_n 3, 1) := by decide +kernel
theorem dX9_costing_37 : decode cX9_costing 37 = .ok (.iinc 4 1, 3) := by decide +kernel
theorem dX9_costing_40 : decode cX9_costing 40 = .ok (.goto (-35), 3) := by decide +kernel
theorem dX9_costing_43 : decode cX9_costing 43 = .ok (.iload_n 3, 1) := by decide +kernel
theorem dX9_costing_44 : decode cX9_costing 44 = .ok (.ireturn, 1) := by decide +kernel
theorem dX9_off_0 : decode cX9_off 0 = .ok (.iconst 0, 1) := by decide +kernel
theorem dX9_off_1 : decode cX9_off 1 = .ok (.istore_n 2, 1) := by decide +kernel
theorem dX9_off_2 : decode cX9_off 2 = .ok (.iconst 0, 1) := by decide +kernel
theorem dX9_off_3 : decode cX9_off 3 = .ok (.istore_n 3, 1) := by decide +kernel
theorem dX9_off_4 : decode cX9_off 4 = .ok (.iload_n 3, 1) := by decide +kernel
theorem dX9_off_5 : decode cX9_off 5 = .ok (.aload_n 0, 1) := by decide +kernel
theorem dX9_off_6 : decode cX9_off 6 = .ok (.getfield 34, 3) := by decide +kernel
theorem dX9_off_9 : decode cX9_off 9 = .ok (.if_icmp .ge 25, 3) := by decide +kernel
theorem dX9_off_12 : decode cX9_off 12 = .ok (.iload_n 2, 1) := by decide +kernel
theorem dX9_off_13 : decode cX9_off 13 = .ok (.aload_n 1, 1) := by decide +kernel
theorem dX9_off_14 : decode cX9_off 14 = .ok (.iload_n 3, 1) := by decide +kernel
theorem dX9_off_15 : decode cX9_off 15 = .ok (.iaload, 1) := by decide +kernel
theorem dX9_off_16 : decode cX9_off 16 = .ok (.aload_n 0, 1) := by decide +kernel
theorem dX9_off_17 : decode cX9_off 17 = .ok (.iconst 3, 1) := by decide +kernel
theorem dX9_off_18 : decode cX9_off 18 = .ok (.iload_n 3, 1) := by decide +kernel
theorem dX9_off_19 : decode cX9_off 19 = .ok (.invokevirtual 47, 3) := by decide +kernel
theorem dX9_off_22 : decode cX9_off 22 = .ok (.isub, 1) := by decide +kernel
theorem dX9_off_23 : decode cX9_off 23 = .ok (.invokestatic 56, 3) := by decide +kernel
theorem dX9_off_26 : decode cX9_off 26 = .ok (.iadd, 1) := by decide +kernel
theorem dX9_off_27 : decode cX9_off 27 = .ok (.istore_n 2, 1) := by decide +kernel
theorem dX9_off_28 : decode cX9_off 28 = .ok (.iinc 3 1, 3) := by decide +kernel
theorem dX9_off_31 : decode cX9_off 31 = .ok (.goto (-27), 3) := by decide +kernel
theorem dX9_off_34 : decode cX9_off 34 = .ok (.iload_n 2, 1) := by decide +kernel
theorem dX9_off_35 : decode cX9_off 35 = .ok (.ireturn, 1) := by decide +kernel
theorem dX9_burden_0 : decode cX9_burden 0 = .ok (.iconst 0, 1) := by decide +kernel
theorem dX9_burden_1 : decode cX9_burden 1 = .ok (.istore_n 3, 1) := by decide +kernel
theorem dX9_burden_2 : decode cX9_burden 2 = .ok (.iconst 0, 1) := by decide +kernel
theorem dX9_burden_3 : decode cX9_burden 3 = .ok (.istore 4, 2) := by decide +kernel
theorem dX9_burden_5 : decode cX9_burden 5 = .ok (.iload 4, 2) := by decide +kernel
theorem dX9_burden_7 : decode cX9_burden 7 = .ok (.aload_n 0, 1) := by decide +kernel
theorem dX9_burden_8 : decode cX9_burden 8 = .ok (.getfield 34, 3) := by decide +kernel
theorem dX9_burden_11 : decode cX9_burden 11 = .ok (.if_icmp .ge 28, 3) := by decide +kernel
theorem dX9_burden_14 : decode cX9_burden 14 = .ok (.iload_n 3, 1) := by decide +kernel
theorem dX9_burden_15 : decode cX9_burden 15 = .ok (.aload_n 0, 1) := by decide +kernel
theorem dX9_burden_16 : decode cX9_burden 16 = .ok (.getfield 19, 3) := by decide +kernel
theorem dX9_burden_19 : decode cX9_burden 19 = .ok (.iload_n 1, 1) := by decide +kernel
theorem dX9_burden_20 : decode cX9_burden 20 = .ok (.iconst 4, 1) := by decide +kernel
theorem dX9_burden_21 : decode cX9_burden 21 = .ok (.imul, 1) := by decide +kernel
theorem dX9_burden_22 : decode cX9_burden 22 = .ok (.iload 4, 2) := by decide +kernel
theorem dX9_burden_24 : decode cX9_burden 24 = .ok (.iadd, 1) := by decide +kernel
theorem dX9_burden_25 : decode cX9_burden 25 = .ok (.iaload, 1) := by decide +kernel
theorem dX9_burden_26 : decode cX9_burden 26 = .ok (.aload_n 2, 1) := by decide +kernel
theorem dX9_burden_27 : decode cX9_burden 27 = .ok (.iload 4, 2) := by decide +kernel
theorem dX9_burden_29 : decode cX9_burden 29 = .ok (.iaload, 1) := by decide +kernel
theorem dX9_burden_30 : decode cX9_burden 30 = .ok (.imul, 1) := by decide +kernel
theorem dX9_burden_31 : decode cX9_burden 31 = .ok (.iadd, 1) := by decide +kernel
theorem dX9_burden_32 : decode cX9_burden 32 = .ok (.istore_n 3, 1) := by decide +kernel
theorem dX9_burden_33 : decode cX9_burden 33 = .ok (.iinc 4 1, 3) := by decide +kernel
theorem dX9_burden_36 : decode cX9_burden 36 = .ok (.goto (-31), 3) := by decide +kernel
theorem dX9_burden_39 : decode cX9_burden 39 = .ok (.iload_n 3, 1) := by decide +kernel
theorem dX9_burden_40 : decode cX9_burden 40 = .ok (.ireturn, 1) := by decide +kernel
theorem dX9_unitsTogether_0 : decode cX9_unitsTogether 0 = .ok (.iconst 0, 1) := by decide +kernel
theorem dX9_unitsTogether_1 : decode cX9_unitsTogether 1 = .ok (.istore_n 2, 1) := by decide +kernel
theorem dX9_unitsTogether_2 : decode cX9_unitsTogether 2 = .ok (.iconst 0, 1) := by decide +kernel
theorem dX9_unitsTogether_3 : decode cX9_unitsTogether 3 = .ok (.istore_n 3, 1) := by decide +kernel
theorem dX9_unitsTogether_4 : decode cX9_unitsTogether 4 = .ok (.iload_n 3, 1) := by decide +kernel
theorem dX9_unitsTogether_5 : decode cX9_unitsTogether 5 = .ok (.aload_n 0, 1) := by decide +kernel
theorem dX9_unitsTogether_6 : decode cX9_unitsTogether 6 = .ok (.getfield 34, 3) := by decide +kernel
theorem dX9_unitsTogether_9 : decode cX9_unitsTogether 9 = .ok (.if_icmp .ge 22, 3) := by decide +kernel
theorem dX9_unitsTogether_12 : decode cX9_unitsTogether 12 = .ok (.iload_n 2, 1) := by decide +kernel
theorem dX9_unitsTogether_13 : decode cX9_unitsTogether 13 = .ok (.aload_n 0, 1) := by decide +kernel
theorem dX9_unitsTogether_14 : decode cX9_unitsTogether 14 = .ok (.getfield 19, 3) := by decide +kernel
theorem dX9_unitsTogether_17 : decode cX9_unitsTogether 17 = .ok (.iload_n 1, 1) := by decide +kernel
theorem dX9_unitsTogether_18 : decode cX9_unitsTogether 18 = .ok (.iconst 4, 1) := by decide +kernel
theorem dX9_unitsTogether_19 : decode cX9_unitsTogether 19 = .ok (.imul, 1) := by decide +kernel
theorem dX9_unitsTogether_20 : decode cX9_unitsTogether 20 = .ok (.iload_n 3, 1) := by decide +kernel
theorem dX9_unitsTogether_21 : decode cX9_unitsTogether 21 = .ok (.iadd, 1) := by decide +kernel
theorem dX9_unitsTogether_22 : decode cX9_unitsTogether 22 = .ok (.iaload, 1) := by decide +kernel
theorem dX9_unitsTogether_23 : decode cX9_unitsTogether 23 = .ok (.iadd, 1) := by decide +kernel
theorem dX9_unitsTogether_24 : decode cX9_unitsTogether 24 = .ok (.istore_n 2, 1) := by decide +kernel
theorem dX9_unitsTogether_25 : decode cX9_unitsTogether 25 = .ok (.iinc 3 1, 3) := by decide +kernel
theorem dX9_unitsTogether_28 : decode cX9_unitsTogether 28 = .ok (.goto (-24), 3) := by decide +kernel
theorem dX9_unitsTogether_31 : decode cX9_unitsTogether 31 = .ok (.iload_n 2, 1) := by decide +kernel
theorem dX9_unitsTogether_32 : decode cX9_unitsTogether 32 = .ok (.ireturn, 1) := by decide +kernel
theorem dX10_init_0 : decode cX10_init 0 = .ok (.aload_n 0, 1) := by decide +kernel
theorem dX10_init_1 : decode cX10_init 1 = .ok (.invokespecial 3, 3) := by decide +kernel
theorem dX10_init_4 : decode cX10_init 4 = .ok (.aload_n 0, 1) := by decide +kernel
theorem dX10_init_5 : decode cX10_init 5 = .ok (.iconst 4, 1) := by decide +kernel
theorem dX10_init_6 : decode cX10_init 6 = .ok (.newarray .int, 2) := by decide +kernel
theorem dX10_init_8 : decode cX10_init 8 = .ok (.putfield 9, 3) := by decide +kernel
theorem dX10_init_11 : decode cX10_init 11 = .ok (.aload_n 0, 1) := by decide +kernel
theorem dX10_init_12 : decode cX10_init 12 = .ok (.iconst 4, 1) := by decide +kernel
theorem dX10_init_13 : decode cX10_init 13 = .ok (.newarray .int, 2) := by decide +kernel
theorem dX10_init_15 : decode cX10_init 15 = .ok (.putfield 15, 3) := by decide +kernel
theorem dX10_init_18 : decode cX10_init 18 = .ok (.aload_n 0, 1) := by decide +kernel
theorem dX10_init_19 : decode cX10_init 19 = .ok (.iconst 4, 1) := by decide +kernel
theorem dX10_init_20 : decode cX10_init 20 = .ok (.newarray .int, 2) := by decide +kernel
theorem dX10_init_22 : decode cX10_init 22 = .ok (.putfield 18, 3) := by decide +kernel
theorem dX10_init_25 : decode cX10_init 25 = .ok (.aload_n 0, 1) := by decide +kernel
theorem dX10_init_26 : decode cX10_init 26 = .ok (.iconst 4, 1) := by decide +kernel
theorem dX10_init_27 : decode cX10_init 27 = .ok (.newarray .int, 2) := by decide +kernel
theorem dX10_init_29 : decode cX10_init 29 = .ok (.putfield 21, 3) := by decide +kernel
theorem dX10_init_32 : decode cX10_init 32 = .ok (.return_, 1) := by decide +kernel
theorem dX10_begin_0 : decode cX10_begin 0 = .ok (.aload_n 0, 1) := by decide +kernel
theorem dX10_begin_1 : decode cX10_begin 1 = .ok (.iconst 0, 1) := by decide +kernel
theorem dX10_begin_2 : decode cX10_begin 2 = .ok (.putfield 24, 3) := by decide +kernel
theorem dX10_begin_5 : decode cX10_begin 5 = .ok (.aload_n 0, 1) := by decide +kernel
theorem dX10_begin_6 : decode cX10_begin 6 = .ok (.iconst 0, 1) := by decide +kernel
theorem dX10_begin_7 : decode cX10_begin 7 = .ok (.putfield 28, 3) := by decide +kernel
theorem dX10_begin_10 : decode cX10_begin 10 = .ok (.iconst 0, 1) := by decide +kernel
theorem dX10_begin_11 : decode cX10_begin 11 = .ok (.istore_n 2, 1) := by decide +kernel
theorem dX10_begin_12 : decode cX10_begin 12 = .ok (.iload_n 2, 1) := by decide +kernel
theorem dX10_begin_13 : decode cX10_begin 13 = .ok (.iconst 4, 1) := by decide +kernel
theorem dX10_begin_14 : decode cX10_begin 14 = .ok (.if_icmp .ge 45, 3) := by decide +kernel
theorem dX10_begin_17 : decode cX10_begin 17 = .ok (.aload_n 0, 1) := by decide +kernel
theorem dX10_begin_18 : decode cX10_begin 18 = .ok (.getfield 9, 3) := by decide +kernel
theorem dX10_begin_21 : decode cX10_begin 21 = .ok (.iload_n 2, 1) := by decide +kernel
theorem dX10_begin_22 : decode cX10_begin 22 = .ok (.aload_n 1, 1) := by decide +kernel
theorem dX10_begin_23 : decode cX10_begin 23 = .ok (.iconst 0, 1) := by decide +kernel
theorem dX10_begin_24 : decode cX10_begin 24 = .ok (.iload_n 2, 1) := by decide +kernel
theorem dX10_begin_25 : decode cX10_begin 25 = .ok (.invokevirtual 33, 3) := by decide +kernel
theorem dX10_begin_28 : decode cX10_begin 28 = .ok (.iastore, 1) := by decide +kernel
theorem dX10_begin_29 : decode cX10_begin 29 = .ok (.aload_n 0, 1) := by decide +kernel
theorem dX10_begin_30 : decode cX10_begin 30 = .ok (.getfield 15, 3) := by decide +kernel
theorem dX10_begin_33 : decode cX10_begin 33 = .ok (.iload_n 2, 1) := by decide +kernel
theorem dX10_begin_34 : decode cX10_begin 34 = .ok (.aload_n 0, 1) := by decide +kernel
theorem dX10_begin_35 : decode cX10_begin 35 = .ok (.getfield 9, 3) := by decide +kernel
theorem dX10_begin_38 : decode cX10_begin 38 = .ok (.iload_n 2, 1) := by decide +kernel
theorem dX10_begin_39 : decode cX10_begin 39 = .ok (.iaload, 1) := by decide +kernel
theorem dX10_begin_40 : decode cX10_begin 40 = .ok (.iastore, 1) := by decide +kernel
theorem dX10_begin_41 : decode cX10_begin 41 = .ok (.aload_n 0, 1) := by decide +kernel
theorem dX10_begin_42 : decode cX10_begin 42 = .ok (.getfield 18, 3) := by decide +kernel
theorem dX10_begin_45 : decode cX10_begin 45 = .ok (.iload_n 2, 1) := by decide +kernel
theorem dX10_begin_46 : decode cX10_begin 46 = .ok (.aload_n 1, 1) := by decide +kernel
theorem dX10_begin_47 : decode cX10_begin 47 = .ok (.iconst 4, 1) := by decide +kernel
theorem dX10_begin_48 : decode cX10_begin 48 = .ok (.iload_n 2, 1) := by decide +kernel
theorem dX10_begin_49 : decode cX10_begin 49 = .ok (.invokevirtual 33, 3) := by decide +kernel
theorem dX10_begin_52 : decode cX10_begin 52 = .ok (.iastore, 1) := by decide +kernel
theorem dX10_begin_53 : decode cX10_begin 53 = .ok (.iinc 2 1, 3) := by decide +kernel
theorem dX10_begin_56 : decode cX10_begin 56 = .ok (.goto (-44), 3) := by decide +kernel
theorem dX10_begin_59 : decode cX10_begin 59 = .ok (.aload_n 1, 1) := by decide +kernel
theorem dX10_begin_60 : decode cX10_begin 60 = .ok (.getfield 37, 3) := by decide +kernel
theorem dX10_begin_63 : decode cX10_begin 63 = .ok (.iconst 0, 1) := by decide +kernel
theorem dX10_begin_64 : decode cX10_begin 64 = .ok (.aload_n 0, 1) := by decide +kernel
theorem dX10_begin_65 : decode cX10_begin 65 = .ok (.getfield 21, 3) := by decide +kernel
theorem dX10_begin_68 : decode cX10_begin 68 = .ok (.iconst 0, 1) := by decide +kernel
theorem dX10_begin_69 : decode cX10_begin 69 = .ok (.iconst 4, 1) := by decide +kernel
theorem dX10_begin_70 : decode cX10_begin 70 = .ok (.invokestatic 38, 3) := by decide +kernel
theorem dX10_begin_73 : decode cX10_begin 73 = .ok (.return_, 1) := by decide +kernel
theorem dX10_copy_0 : decode cX10_copy 0 = .ok (.aload_n 0, 1) := by decide +kernel
theorem dX10_copy_1 : decode cX10_copy 1 = .ok (.aload_n 1, 1) := by decide +kernel
theorem dX10_copy_2 : decode cX10_copy 2 = .ok (.getfield 24, 3) := by decide +kernel
theorem dX10_copy_5 : decode cX10_copy 5 = .ok (.putfield 24, 3) := by decide +kernel
theorem dX10_copy_8 : decode cX10_copy 8 = .ok (.aload_n 0, 1) := by decide +kernel
theorem dX10_copy_9 : decode cX10_copy 9 = .ok (.aload_n 1, 1) := by decide +kernel
theorem dX10_copy_10 : decode cX10_copy 10 = .ok (.getfield 28, 3) := by decide +kernel
theorem dX10_copy_13 : decode cX10_copy 13 = .ok (.putfield 28, 3) := by decide +kernel
theorem dX10_copy_16 : decode cX10_copy 16 = .ok (.aload_n 1, 1) := by decide +kernel
theorem dX10_copy_17 : decode cX10_copy 17 = .ok (.getfield 9, 3) := by decide +kernel
theorem dX10_copy_20 : decode cX10_copy 20 = .ok (.iconst 0, 1) := by decide +kernel
theorem dX10_copy_21 : decode cX10_copy 21 = .ok (.aload_n 0, 1) := by decide +kernel
theorem dX10_copy_22 : decode cX10_copy 22 = .ok (.getfield 9, 3) := by decide +kernel
theorem dX10_copy_25 : decode cX10_copy 25 = .ok (.iconst 0, 1) := by decide +kernel
theorem dX10_copy_26 : decode cX10_copy 26 = .ok (.iconst 4, 1) := by decide +kernel
theorem dX10_copy_27 : decode cX10_copy 27 = .ok (.invokestatic 38, 3) := by decide +kernel
theorem dX10_copy_30 : decode cX10_copy 30 = .ok (.aload_n 1, 1) := by decide +kernel
theorem dX10_copy_31 : decode cX10_copy 31 = .ok (.getfield 15, 3) := by decide +kernel
theorem dX10_copy_34 : decode cX10_copy 34 = .ok (.iconst 0, 1) := by decide +kernel
theorem dX10_copy_35 : decode cX10_copy 35 = .ok (.aload_n 0, 1) := by decide +kernel
theorem dX10_copy_36 : decode cX10_copy 36 = .ok (.getfield 15, 3) := by decide +kernel
theorem dX10_copy_39 : decode cX10_copy 39 = .ok (.iconst 0, 1) := by decide +kernel
theorem dX10_copy_40 : decode cX10_copy 40 = .ok (.iconst 4, 1) := by decide +kernel
theorem dX10_copy_41 : decode cX10_copy 41 = .ok (.invokestatic 38, 3) := by decide +kernel
theorem dX10_copy_44 : decode cX10_copy 44 = .ok (.aload_n 1, 1) := by decide +kernel
theorem dX10_copy_45 : decode cX10_copy 45 = .ok (.getfield 18, 3) := by decide +kernel
theorem dX10_copy_48 : decode cX10_copy 48 = .ok (.iconst 0, 1) := by decide +kernel
theorem dX10_copy_49 : decode cX10_copy 49 = .ok (.aload_n 0, 1) := by decide +kernel
theorem dX10_copy_50 : decode cX10_copy 50 = .ok (.getfield 18, 3) := by decide +kernel
theorem dX10_copy_53 : decode cX10_copy 53 = .ok (.iconst 0, 1) := by decide +kernel
theorem dX10_copy_54 : decode cX10_copy 54 = .ok (.iconst 4, 1) := by decide +kernel
theorem dX10_copy_55 : decode cX10_copy 55 = .ok (.invokestatic 38, 3) := by decide +kernel
theorem dX10_copy_58 : decode cX10_copy 58 = .ok (.aload_n 1, 1) := by decide +kernel
theorem dX10_copy_59 : decode cX10_copy 59 = .ok (.getfield 21, 3) := by decide +kernel
theorem dX10_copy_62 : decode cX10_copy 62 = .ok (.iconst 0, 1) := by decide +kernel
theorem dX10_copy_63 : decode cX10_copy 63 = .ok (.aload_n 0, 1) := by decide +kernel
theorem dX10_copy_64 : decode cX10_copy 64 = .ok (.getfield 21, 3) := by decide +kernel
theorem dX10_copy_67 : decode cX10_copy 67 = .ok (.iconst 0, 1) := by decide +kernel
theorem dX10_copy_68 : decode cX10_copy 68 = .ok (.iconst 4, 1) := by decide +kernel
theorem dX10_copy_69 : decode cX10_copy 69 = .ok (.invokestatic 38, 3) := by decide +kernel
theorem dX10_copy_72 : decode cX10_copy 72 = .ok (.return_, 1) := by decide +kernel
theorem dX10_rate_0 : decode cX10_rate 0 = .ok (.bipush 100, 2) := by decide +kernel
theorem dX10_rate_2 : decode cX10_rate 2 = .ok (.aload_n 0, 1) := by decide +kernel
theorem dX10_rate_3 : decode cX10_rate 3 = .ok (.getfield 21, 3) := by decide +kernel
theorem dX10_rate_6 : decode cX10_rate 6 = .ok (.iconst 0, 1) := by decide +kernel
theorem dX10_rate_7 : decode cX10_rate 7 = .ok (.iaload, 1) := by decide +kernel
theorem dX10_rate_8 : decode cX10_rate 8 = .ok (.iadd, 1) := by decide +kernel
theorem dX10_rate_9 : decode cX10_rate 9 = .ok (.aload_n 0, 1) := by decide +kernel
theorem dX10_rate_10 : decode cX10_rate 10 = .ok (.getfield 21, 3) := by decide +kernel
theorem dX10_rate_13 : decode cX10_rate 13 = .ok (.iconst 1, 1) := by decide +kernel
theorem dX10_rate_14 : decode cX10_rate 14 = .ok (.iaload, 1) := by decide +kernel
theorem dX10_rate_15 : decode cX10_rate 15 = .ok (.isub, 1) := by decide +kernel
theorem dX10_rate_16 : decode cX10_rate 16 = .ok (.ireturn, 1) := by decide +kernel
theorem dX10_weight_0 : decode cX10_weight 0 = .ok (.aload_n 1, 1) := by decide +kernel
theorem dX10_weight_1 : decode cX10_weight 1 = .ok (.getfield 44, 3) := by decide +kernel
theorem dX10_weight_4 : decode cX10_weight 4 = .ok (.iload_n 2, 1) := by decide +kernel
theorem dX10_weight_5 : decode cX10_weight 5 = .ok (.bipush 21, 2) := by decide +kernel
theorem dX10_weight_7 : decode cX10_weight 7 = .ok (.imul, 1) := by decide +kernel
theorem dX10_weight_8 : decode cX10_weight 8 = .ok (.aload_n 0, 1) := by decide +kernel
theorem dX10_weight_9 : decode cX10_weight 9 = .ok (.getfield 9, 3) := by decide +kernel
theorem dX10_weight_12 : decode cX10_weight 12 = .ok (.iload_n 2, 1) := by decide +kernel
theorem dX10_weight_13 : decode cX10_weight 13 = .ok (.iaload, 1) := by decide +kernel
theorem dX10_weight_14 : decode cX10_weight 14 = .ok (.iadd, 1) := by decide +kernel
theorem dX10_weight_15 : decode cX10_weight 15 = .ok (.iaload, 1) := by decide +kernel
theorem dX10_weight_16 : decode cX10_weight 16 = .ok (.ireturn, 1) := by decide +kernel
theorem dX10_weights_0 : decode cX10_weights 0 = .ok (.aload_n 1, 1) := by decide +kernel
theorem dX10_weights_1 : decode cX10_weights 1 = .ok (.aload_n 1, 1) := by decide +kernel
theorem dX10_weights_2 : decode cX10_weights 2 = .ok (.getfield 44, 3) := by decide +kernel
theorem dX10_weights_5 : decode cX10_weights 5 = .ok (.aload_n 0, 1) := by decide +kernel
theorem dX10_weights_6 : decode cX10_weights 6 = .ok (.getfield 9, 3) := by decide +kernel
theorem dX10_weights_9 : decode cX10_weights 9 = .ok (.invokevirtual 47, 3) := by decide +kernel
theorem dX10_weights_12 : decode cX10_weights 12 = .ok (.ireturn, 1) := by decide +kernel
theorem dX10_duesOf_0 : decode cX10_duesOf 0 = .ok (.iconst 0, 1) := by decide +kernel
theorem dX10_duesOf_1 : decode cX10_duesOf 1 = .ok (.aload_n 1, 1) := by decide +kernel
theorem dX10_duesOf_2 : decode cX10_duesOf 2 = .ok (.iconst 5, 1) := by decide +kernel
theorem dX10_duesOf_3 : decode cX10_duesOf 3 = .ok (.iload_n 2, 1) := by decide +kernel
theorem dX10_duesOf_4 : decode cX10_duesOf 4 = .ok (.invokevirtual 33, 3) := by decide +kernel
theorem dX10_duesOf_7 : decode cX10_duesOf 7 = .ok (.aload_n 0, 1) := by decide +kernel
theorem dX10_duesOf_8 : decode cX10_duesOf 8 = .ok (.getfield 18, 3) := by decide +kernel
theorem dX10_duesOf_11 : decode cX10_duesOf 11 = .ok (.iload_n 2, 1) := by decide +kernel
theorem dX10_duesOf_12 : decode cX10_duesOf 12 = .ok (.iaload, 1) := by decide +kernel
theorem dX10_duesOf_13 : decode cX10_duesOf 13 = .ok (.isub, 1) := by decide +kernel
theorem dX10_duesOf_14 : decode cX10_duesOf 14 = .ok (.invokestatic 51, 3) := by decide +kernel
theorem dX10_duesOf_17 : decode cX10_duesOf 17 = .ok (.aload_n 0, 1) := by decide +kernel
theorem dX10_duesOf_18 : decode cX10_duesOf 18 = .ok (.getfield 21, 3) := by decide +kernel
theorem dX10_duesOf_21 : decode cX10_duesOf 21 = .ok (.iconst 3, 1) := by decide +kernel
theorem dX10_duesOf_22 : decode cX10_duesOf 22 = .ok (.iaload, 1) := by decide +kernel
theorem dX10_duesOf_23 : decode cX10_duesOf 23 = .ok (.imul, 1) := by decide +kernel
theorem dX10_duesOf_24 : decode cX10_duesOf 24 = .ok (.ireturn, 1) := by decide +kernel
theorem dX10_dues_0 : decode cX10_dues 0 = .ok (.iconst 0, 1) := by decide +kernel
theorem dX10_dues_1 : decode cX10_dues 1 = .ok (.istore_n 2, 1) := by decide +kernel
theorem dX10_dues_2 : decode cX10_dues 2 = .ok (.iconst 0, 1) := by decide +kernel
theorem dX10_dues_3 : decode cX10_dues 3 = .ok (.istore_n 3, 1) := by decide +kernel
theorem dX10_dues_4 : decode cX10_dues 4 = .ok (.iload_n 3, 1) := by decide +kernel
theorem dX10_dues_5 : decode cX10_dues 5 = .ok (.aload_n 1, 1) := by decide +kernel
theorem dX10_dues_6 : decode cX10_dues 6 = .ok (.getfield 56, 3) := by decide +kernel
theorem dX10_dues_9 : decode cX10_dues 9 = .ok (.if_icmp .ge 18, 3) := by decide +kernel
theorem dX10_dues_12 : decode cX10_dues 12 = .ok (.iload_n 2, 1) := by decide +kernel
theorem dX10_dues_13 : decode cX10_dues 13 = .ok (.aload_n 0, 1) := by decide +kernel
theorem dX10_dues_14 : decode cX10_dues 14 = .ok (.aload_n 1, 1) := by decide +kernel
theorem dX10_dues_15 : decode cX10_dues 15 = .ok (.iload_n 3, 1) := by decide +kernel
theorem dX10_dues_16 : decode cX10_dues 16 = .ok (.invokevirtual 59, 3) := by decide +kernel
theorem dX10_dues_19 : decode cX10_dues 19 = .ok (.iadd, 1) := by decide +kernel
theorem dX10_dues_20 : decode cX10_dues 20 = .ok (.istore_n 2, 1) := by decide +kernel
theorem dX10_dues_21 : decode cX10_dues 21 = .ok (.iinc 3 1, 3) := by decide +kernel
theorem dX10_dues_24 : decode cX10_dues 24 = .ok (.goto (-20), 3) := by decide +kernel
theorem dX10_dues_27 : decode cX10_dues 27 = .ok (.iload_n 2, 1) := by decide +kernel
theorem dX10_dues_28 : decode cX10_dues 28 = .ok (.ireturn, 1) := by decide +kernel
theorem dX10_allowedWith_0 : decode cX10_allowedWith 0 = .ok (.aload_n 1, 1) := by decide +kernel
theorem dX10_allowedWith_1 : decode cX10_allowedWith 1 = .ok (.aload_n 0, 1) := by decide +kernel
theorem dX10_allowedWith_2 : decode cX10_allowedWith 2 = .ok (.getfield 9, 3) := by decide +kernel
theorem dX10_allowedWith_5 : decode cX10_allowedWith 5 = .ok (.aload_n 0, 1) := by decide +kernel
theorem dX10_allowedWith_6 : decode cX10_allowedWith 6 = .ok (.getfield 9, 3) := by decide +kernel
theorem dX10_allowedWith_9 : decode cX10_allowedWith 9 = .ok (.invokevirtual 63, 3) := by decide +kernel
theorem dX10_allowedWith_12 : decode cX10_allowedWith 12 = .ok (.istore_n 3, 1) := by decide +kernel
theorem dX10_allowedWith_13 : decode cX10_allowedWith 13 = .ok (.iconst 0, 1) := by decide +kernel
theorem dX10_allowedWith_14 : decode cX10_allowedWith 14 = .ok (.aload_n 0, 1) := by decide +kernel
theorem dX10_allowedWith_15 : decode cX10_allowedWith 15 = .ok (.invokevirtual 66, 3) := by decide +kernel
theorem dX10_allowedWith_18 : decode cX10_allowedWith 18 = .ok (.iload_n 3, 1) := by decide +kernel
theorem dX10_allowedWith_19 : decode cX10_allowedWith 19 = .ok (.imul, 1) := by decide +kernel
theorem dX10_allowedWith_20 : decode cX10_allowedWith 20 = .ok (.bipush 100, 2) := by decide +kernel
theorem dX10_allowedWith_22 : decode cX10_allowedWith 22 = .ok (.idiv, 1) := by decide +kernel
theorem dX10_allowedWith_23 : decode cX10_allowedWith 23 = .ok (.aload_n 0, 1) := by decide +kernel
theorem dX10_allowedWith_24 : decode cX10_allowedWith 24 = .ok (.getfield 28, 3) := by decide +kernel
theorem dX10_allowedWith_27 : decode cX10_allowedWith 27 = .ok (.iadd, 1) := by decide +kernel
theorem dX10_allowedWith_28 : decode cX10_allowedWith 28 = .ok (.iload_n 2, 1) := by decide +kernel
theorem dX10_allowedWith_29 : decode cX10_allowedWith 29 = .ok (.isub, 1) := by decide +kernel
theorem dX10_allowedWith_30 : decode cX10_allowedWith 30 = .ok (.invokestatic 51, 3) := by decide +kernel
theorem dX10_allowedWith_33 : decode cX10_allowedWith 33 = .ok (.ireturn, 1) := by decide +kernel
theorem dX10_allowed_0 : decode cX10_allowed 0 = .ok (.aload_n 0, 1) := by decide +kernel
theorem dX10_allowed_1 : decode cX10_allowed 1 = .ok (.aload_n 1, 1) := by decide +kernel
theorem dX10_allowed_2 : decode cX10_allowed 2 = .ok (.aload_n 0, 1) := by decide +kernel
theorem dX10_allowed_3 : decode cX10_allowed 3 = .ok (.aload_n 1, 1) := by decide +kernel
theorem dX10_allowed_4 : decode cX10_allowed 4 = .ok (.invokevirtual 70, 3) := by decide +kernel
theorem dX10_allowed_7 : decode cX10_allowed 7 = .ok (.invokevirtual 74, 3) := by decide +kernel
theorem dX10_allowed_10 : decode cX10_allowed 10 = .ok (.ireturn, 1) := by decide +kernel
theorem dX10_spent_0 : decode cX10_spent 0 = .ok (.aload_n 1, 1) := by decide +kernel
theorem dX10_spent_1 : decode cX10_spent 1 = .ok (.aload_n 0, 1) := by decide +kernel
theorem dX10_spent_2 : decode cX10_spent 2 = .ok (.getfield 15, 3) := by decide +kernel
theorem dX10_spent_5 : decode cX10_spent 5 = .ok (.aload_n 0, 1) := by decide +kernel
theorem dX10_spent_6 : decode cX10_spent 6 = .ok (.getfield 9, 3) := by decide +kernel
theorem dX10_spent_9 : decode cX10_spent 9 = .ok (.invokevirtual 63, 3) := by decide +kernel
theorem dX10_spent_12 : decode cX10_spent 12 = .ok (.ireturn, 1) := by decide +kernel
theorem dX10_spentWith_0 : decode cX10_spentWith 0 = .ok (.aload_n 0, 1) := by decide +kernel
theorem dX10_spentWith_1 : decode cX10_spentWith 1 = .ok (.aload_n 1, 1) := by decide +kernel
theorem dX10_spentWith_2 : decode cX10_spentWith 2 = .ok (.invokevirtual 77, 3) := by decide +kernel
theorem dX10_spentWith_5 : decode cX10_spentWith 5 = .ok (.iload_n 3, 1) := by decide +kernel
theorem dX10_spentWith_6 : decode cX10_spentWith 6 = .ok (.aload_n 0, 1) := by decide +kernel
theorem dX10_spentWith_7 : decode cX10_spentWith 7 = .ok (.getfield 15, 3) := by decide +kernel
theorem dX10_spentWith_10 : decode cX10_spentWith 10 = .ok (.iload_n 2, 1) := by decide +kernel
theorem dX10_spentWith_11 : decode cX10_spentWith 11 = .ok (.iaload, 1) := by decide +kernel
theorem dX10_spentWith_12 : decode cX10_spentWith 12 = .ok (.isub, 1) := by decide +kernel
theorem dX10_spentWith_13 : decode cX10_spentWith 13 = .ok (.aload_n 0, 1) := by decide +kernel
theorem dX10_spentWith_14 : decode cX10_spentWith 14 = .ok (.aload_n 1, 1) := by decide +kernel
theorem dX10_spentWith_15 : decode cX10_spentWith 15 = .ok (.iload_n 2, 1) := by decide +kernel
theorem dX10_spentWith_16 : decode cX10_spentWith 16 = .ok (.invokevirtual 80, 3) := by decide +kernel
theorem dX10_spentWith_19 : decode cX10_spentWith 19 = .ok (.imul, 1) := by decide +kernel
theorem dX10_spentWith_20 : decode cX10_spentWith 20 = .ok (.iadd, 1) := by decide +kernel
theorem dX10_spentWith_21 : decode cX10_spentWith 21 = .ok (.ireturn, 1) := by decide +kernel
theorem dX10_left_0 : decode cX10_left 0 = .ok (.aload_n 0, 1) := by decide +kernel
theorem dX10_left_1 : decode cX10_left 1 = .ok (.aload_n 1, 1) := by decide +kernel
theorem dX10_left_2 : decode cX10_left 2 = .ok (.invokevirtual 83, 3) := by decide +kernel
theorem dX10_left_5 : decode cX10_left 5 = .ok (.aload_n 0, 1) := by decide +kernel
theorem dX10_left_6 : decode cX10_left 6 = .ok (.aload_n 1, 1) := by decide +kernel
theorem dX10_left_7 : decode cX10_left 7 = .ok (.invokevirtual 77, 3) := by decide +kernel
theorem dX10_left_10 : decode cX10_left 10 = .ok (.isub, 1) := by decide +kernel
theorem dX10_left_11 : decode cX10_left 11 = .ok (.ireturn, 1) := by decide +kernel
theorem dX10_isKept_0 : decode cX10_isKept 0 = .ok (.aload_n 0, 1) := by decide +kernel
theorem dX10_isKept_1 : decode cX10_isKept 1 = .ok (.aload_n 1, 1) := by decide +kernel
theorem dX10_isKept_2 : decode cX10_isKept 2 = .ok (.invokevirtual 86, 3) := by decide +kernel
theorem dX10_isKept_5 : decode cX10_isKept 5 = .ok (.ifCond .lt 7, 3) := by decide +kernel
theorem dX10_isKept_8 : decode cX10_isKept 8 = .ok (.iconst 1, 1) := by decide +kernel
theorem dX10_isKept_9 : decode cX10_isKept 9 = .ok (.goto 4, 3) := by decide +kernel
theorem dX10_isKept_12 : decode cX10_isKept 12 = .ok (.iconst 0, 1) := by decide +kernel
theorem dX10_isKept_13 : decode cX10_isKept 13 = .ok (.ireturn, 1) := by decide +kernel
theorem dX10_end_0 : decode cX10_end 0 = .ok (.aload_n 0, 1) := by decide +kernel
theorem dX10_end_1 : decode cX10_end 1 = .ok (.aload_n 1, 1) := by decide +kernel
theorem dX10_end_2 : decode cX10_end 2 = .ok (.invokevirtual 83, 3) := by decide +kernel
theorem dX10_end_5 : decode cX10_end 5 = .ok (.istore_n 2, 1) := by decide +kernel
theorem dX10_end_6 : decode cX10_end 6 = .ok (.iload_n 2, 1) := by decide +kernel
theorem dX10_end_7 : decode cX10_end 7 = .ok (.aload_n 0, 1) := by decide +kernel
theorem dX10_end_8 : decode cX10_end 8 = .ok (.aload_n 1, 1) := by decide +kernel
theorem dX10_end_9 : decode cX10_end 9 = .ok (.invokevirtual 77, 3) := by decide +kernel
theorem dX10_end_12 : decode cX10_end 12 = .ok (.isub, 1) := by decide +kernel
theorem dX10_end_13 : decode cX10_end 13 = .ok (.istore_n 3, 1) := by decide +kernel
theorem dX10_end_14 : decode cX10_end 14 = .ok (.aload_n 0, 1) := by decide +kernel
theorem dX10_end_15 : decode cX10_end 15 = .ok (.iload_n 3, 1) := by decide +kernel
theorem dX10_end_16 : decode cX10_end 16 = .ok (.ifCond .ge 9, 3) := by decide +kernel
theorem dX10_end_19 : decode cX10_end 19 = .ok (.iconst 2, 1) := by decide +kernel
theorem dX10_end_20 : decode cX10_end 20 = .ok (.iload_n 3, 1) := by decide +kernel
theorem dX10_end_21 : decode cX10_end 21 = .ok (.imul, 1) := by decide +kernel
theorem dX10_end_22 : decode cX10_end 22 = .ok (.goto 18, 3) := by decide +kernel
theorem dX10_end_25 : decode cX10_end 25 = .ok (.iload_n 3, 1) := by decide +kernel
theorem dX10_end_26 : decode cX10_end 26 = .ok (.aload_n 0, 1) := by decide +kernel
theorem dX10_end_27 : decode cX10_end 27 = .ok (.getfield 21, 3) := by decide +kernel
theorem dX10_end_30 : decode cX10_end 30 = .ok (.iconst 2, 1) := by decide +kernel
theorem dX10_end_31 : decode cX10_end 31 = .ok (.iaload, 1) := by decide +kernel
theorem dX10_end_32 : decode cX10_end 32 = .ok (.iload_n 2, 1) := by decide +kernel
theorem dX10_end_33 : decode cX10_end 33 = .ok (.imul, 1) := by decide +kernel
theorem dX10_end_34 : decode cX10_end 34 = .ok (.bipush 100, 2) := by decide +kernel
theorem dX10_end_36 : decode cX10_end 36 = .ok (.idiv, 1) := by decide +kernel
theorem dX10_end_37 : decode cX10_end 37 = .ok (.invokestatic 89, 3) := by decide +kernel
theorem dX10_end_40 : decode cX10_end 40 = .ok (.putfield 28, 3) := by decide +kernel
theorem dX10_end_43 : decode cX10_end 43 = .ok (.aload_n 0, 1) := by decide +kernel
theorem dX10_end_44 : decode cX10_end 44 = .ok (.getfield 15, 3) := by decide +kernel
theorem dX10_end_47 : decode cX10_end 47 = .ok (.iconst 0, 1) := by decide +kernel
theorem dX10_end_48 : decode cX10_end 48 = .ok (.aload_n 0, 1) := by decide +kernel
theorem dX10_end_49 : decode cX10_end 49 = .ok (.getfield 9, 3) := by decide +kernel
theorem dX10_end_52 : decode cX10_end 52 = .ok (.iconst 0, 1) := by decide +kernel
theorem dX10_end_53 : decode cX10_end 53 = .ok (.iconst 4, 1) := by decide +kernel
theorem dX10_end_54 : decode cX10_end 54 = .ok (.invokestatic 38, 3) := by decide +kernel
theorem dX10_end_57 : decode cX10_end 57 = .ok (.aload_n 0, 1) := by decide +kernel
theorem dX10_end_58 : decode cX10_end 58 = .ok (.dup, 1) := by decide +kernel
theorem dX10_end_59 : decode cX10_end 59 = .ok (.getfield 24, 3) := by decide +kernel
theorem dX10_end_62 : decode cX10_end 62 = .ok (.iconst 1, 1) := by decide +kernel
theorem dX10_end_63 : decode cX10_end 63 = .ok (.iadd, 1) := by decide +kernel
theorem dX10_end_64 : decode cX10_end 64 = .ok (.putfield 24, 3) := by decide +kernel
theorem dX10_end_67 : decode cX10_end 67 = .ok (.return_, 1) := by decide +kernel
theorem dX11_init_0 : decode cX11_init 0 = .ok (.aload_n 0, 1) := by decide +kernel
theorem dX11_init_1 : decode cX11_init 1 = .ok (.invokespecial 1, 3) := by decide +kernel
theorem dX11_init_4 : decode cX11_init 4 = .ok (.aload_n 0, 1) := by decide +kernel
theorem dX11_init_5 : decode cX11_init 5 = .ok (.sipush 500, 3) := by decide +kernel
theorem dX11_init_8 : decode cX11_init 8 = .ok (.newarray .int, 2) := by decide +kernel
theorem dX11_init_10 : decode cX11_init 10 = .ok (.putfield 9, 3) := by decide +kernel
theorem dX11_init_13 : decode cX11_init 13 = .ok (.aload_n 0, 1) := by decide +kernel
theorem dX11_init_14 : decode cX11_init 14 = .ok (.new 13, 3) := by decide +kernel
theorem dX11_init_17 : decode cX11_init 17 = .ok (.dup, 1) := by decide +kernel
theorem dX11_init_18 : decode cX11_init 18 = .ok (.invokespecial 15, 3) := by decide +kernel
theorem dX11_init_21 : decode cX11_init 21 = .ok (.putfield 16, 3) := by decide +kernel
theorem dX11_init_24 : decode cX11_init 24 = .ok (.aload_n 0, 1) := by decide +kernel
theorem dX11_init_25 : decode cX11_init 25 = .ok (.new 20, 3) := by decide +kernel
theorem dX11_init_28 : decode cX11_init 28 = .ok (.dup, 1) := by decide +kernel
theorem dX11_init_29 : decode cX11_init 29 = .ok (.invokespecial 22, 3) := by decide +kernel
theorem dX11_init_32 : decode cX11_init 32 = .ok (.putfield 23, 3) := by decide +kernel
theorem dX11_init_35 : decode cX11_init 35 = .ok (.aload_n 0, 1) := by decide +kernel
theorem dX11_init_36 : decode cX11_init 36 = .ok (.new 27, 3) := by decide +kernel
theorem dX11_init_39 : decode cX11_init 39 = .ok (.dup, 1) := by decide +kernel
theorem dX11_init_40 : decode cX11_init 40 = .ok (.invokespecial 29, 3) := by decide +kernel
theorem dX11_init_43 : decode cX11_init 43 = .ok (.putfield 30, 3) := by decide +kernel
theorem dX11_init_46 : decode cX11_init 46 = .ok (.aload_n 0, 1) := by decide +kernel
theorem dX11_init_47 : decode cX11_init 47 = .ok (.new 34, 3) := by decide +kernel
theorem dX11_init_50 : decode cX11_init 50 = .ok (.dup, 1) := by decide +kernel
theorem dX11_init_51 : decode cX11_init 51 = .ok (.invokespecial 36, 3) := by decide +kernel
theorem dX11_init_54 : decode cX11_init 54 = .ok (.putfield 37, 3) := by decide +kernel
theorem dX11_init_57 : decode cX11_init 57 = .ok (.aload_n 0, 1) := by decide +kernel
theorem dX11_init_58 : decode cX11_init 58 = .ok (.iconst 2, 1) := by decide +kernel
theorem dX11_init_59 : decode cX11_init 59 = .ok (.anewarray 41, 3) := by decide +kernel
theorem dX11_init_62 : decode cX11_init 62 = .ok (.putfield 43, 3) := by decide +kernel
theorem dX11_init_65 : decode cX11_init 65 = .ok (.aload_n 0, 1) := by decide +kernel
theorem dX11_init_66 : decode cX11_init 66 = .ok (.new 47, 3) := by decide +kernel
theorem dX11_init_69 : decode cX11_init 69 = .ok (.dup, 1) := by decide +kernel
theorem dX11_init_70 : decode cX11_init 70 = .ok (.invokespecial 49, 3) := by decide +kernel
theorem dX11_init_73 : decode cX11_init 73 = .ok (.putfield 50, 3) := by decide +kernel
theorem dX11_init_76 : decode cX11_init 76 = .ok (.aload_n 0, 1) := by decide +kernel
theorem dX11_init_77 : decode cX11_init 77 = .ok (.new 54, 3) := by decide +kernel
theorem dX11_init_80 : decode cX11_init 80 = .ok (.dup, 1) := by decide +kernel
theorem dX11_init_81 : decode cX11_init 81 = .ok (.aload_n 0, 1) := by decide +kernel
theorem dX11_init_82 : decode cX11_init 82 = .ok (.getfield 50, 3) := by decide +kernel
theorem dX11_init_85 : decode cX11_init 85 = .ok (.invokespecial 56, 3) := by decide +kernel
theorem dX11_init_88 : decode cX11_init 88 = .ok (.putfield 59, 3) := by decide +kernel
theorem dX11_init_91 : decode cX11_init 91 = .ok (.aload_n 0, 1) := by decide +kernel
theorem dX11_init_92 : decode cX11_init 92 = .ok (.new 63, 3) := by decide +kernel
theorem dX11_init_95 : decode cX11_init 95 = .ok (.dup, 1) := by decide +kernel
theorem dX11_init_96 : decode cX11_init 96 = .ok (.aload_n 0, 1) := by decide +kernel
theorem dX11_init_97 : decode cX11_init 97 = .ok (.getfield 50, 3) := by decide +kernel
theorem dX11_init_100 : decode cX11_init 100 = .ok (.invokespecial 65, 3) := by decide +kernel
theorem dX11_init_103 : decode cX11_init 103 = .ok (.putfield 66, 3) := by decide +kernel
theorem dX11_init_106 : decode cX11_init 106 = .ok (.aload_n 0, 1) := by decide +kernel
theorem dX11_init_107 : decode cX11_init 107 = .ok (.new 70, 3) := by decide +kernel
theorem dX11_init_110 : decode cX11_init 110 = .ok (.dup, 1) := by decide +kernel
theorem dX11_init_111 : decode cX11_init 111 = .ok (.invokespecial 72, 3) := by decide +kernel
theorem dX11_init_114 : decode cX11_init 114 = .ok (.putfield 73, 3) := by decide +kernel
theorem dX11_init_117 : decode cX11_init 117 = .ok (.aload_n 0, 1) := by decide +kernel
theorem dX11_init_118 : decode cX11_init 118 = .ok (.bipush 11, 2) := by decide +kernel
theorem dX11_init_120 : decode cX11_init 120 = .ok (.newarray .int, 2) := by decide +kernel
theorem dX11_init_122 : decode cX11_init 122 = .ok (.putfield 77, 3) := by decide +kernel
theorem dX11_init_125 : decode cX11_init 125 = .ok (.aload_n 0, 1) := by decide +kernel
theorem dX11_init_126 : decode cX11_init 126 = .ok (.new 80, 3) := by decide +kernel
theorem dX11_init_129 : decode cX11_init 129 = .ok (.dup, 1) := by decide +kernel
theorem dX11_init_130 : decode cX11_init 130 = .ok (.invokespecial 82, 3) := by decide +kernel
theorem dX11_init_133 : decode cX11_init 133 = .ok (.putfield 83, 3) := by decide +kernel
theorem dX11_init_136 : decode cX11_init 136 = .ok (.aload_n 0, 1) := by decide +kernel
theorem dX11_init_137 : decode cX11_init 137 = .ok (.new 80, 3) := by decide +kernel
theorem dX11_init_140 : decode cX11_init 140 = .ok (.dup, 1) := by decide +kernel
theorem dX11_init_141 : decode cX11_init 141 = .ok (.invokespecial 82, 3) := by decide +kernel
theorem dX11_init_144 : decode cX11_init 144 = .ok (.putfield 87, 3) := by decide +kernel
theorem dX11_init_147 : decode cX11_init 147 = .ok (.iconst 0, 1) := by decide +kernel
theorem dX11_init_148 : decode cX11_init 148 = .ok (.istore_n 1, 1) := by decide +kernel
theorem dX11_init_149 : decode cX11_init 149 = .ok (.iload_n 1, 1) := by decide +kernel
theorem dX11_init_150 : decode cX11_init 150 = .ok (.iconst 2, 1) := by decide +kernel
theorem dX11_init_151 : decode cX11_init 151 = .ok (.if_icmp .ge 22, 3) := by decide +kernel
theorem dX11_init_154 : decode cX11_init 154 = .ok (.aload_n 0, 1) := by decide +kernel
theorem dX11_init_155 : decode cX11_init 155 = .ok (.getfield 43, 3) := by decide +kernel
theorem dX11_init_158 : decode cX11_init 158 = .ok (.iload_n 1, 1) := by decide +kernel
theorem dX11_init_159 : decode cX11_init 159 = .ok (.new 41, 3) := by decide +kernel
theorem dX11_init_162 : decode cX11_init 162 = .ok (.dup, 1) := by decide +kernel
theorem dX11_init_163 : decode cX11_init 163 = .ok (.invokespecial 90, 3) := by decide +kernel
theorem dX11_init_166 : decode cX11_init 166 = .ok (.aastore, 1) := by decide +kernel
theorem dX11_init_167 : decode cX11_init 167 = .ok (.iinc 1 1, 3) := by decide +kernel
theorem dX11_init_170 : decode cX11_init 170 = .ok (.goto (-21), 3) := by decide +kernel
theorem dX11_init_173 : decode cX11_init 173 = .ok (.return_, 1) := by decide +kernel
theorem dX11_feed_0 : decode cX11_feed 0 = .ok (.aload_n 0, 1) := by decide +kernel
theorem dX11_feed_1 : decode cX11_feed 1 = .ok (.getfield 91, 3) := by decide +kernel
theorem dX11_feed_4 : decode cX11_feed 4 = .ok (.bipush 20, 2) := by decide +kernel
theorem dX11_feed_6 : decode cX11_feed 6 = .ok (.iadd, 1) := by decide +kernel
theorem dX11_feed_7 : decode cX11_feed 7 = .ok (.sipush 500, 3) := by decide +kernel
theorem dX11_feed_10 : decode cX11_feed 10 = .ok (.if_icmp .le 5, 3) := by decide +kernel
theorem dX11_feed_13 : decode cX11_feed 13 = .ok (.iconst (-1), 1) := by decide +kernel
theorem dX11_feed_14 : decode cX11_feed 14 = .ok (.ireturn, 1) := by decide +kernel
theorem dX11_feed_15 : decode cX11_feed 15 = .ok (.aload_n 0, 1) := by decide +kernel
theorem dX11_feed_16 : decode cX11_feed 16 = .ok (.iload_n 1, 1) := by decide +kernel
theorem dX11_feed_17 : decode cX11_feed 17 = .ok (.invokevirtual 95, 3) := by decide +kernel
theorem dX11_feed_20 : decode cX11_feed 20 = .ok (.aload_n 0, 1) := by decide +kernel
theorem dX11_feed_21 : decode cX11_feed 21 = .ok (.iload_n 2, 1) := by decide +kernel
theorem dX11_feed_22 : decode cX11_feed 22 = .ok (.invokevirtual 95, 3) := by decide +kernel
theorem dX11_feed_25 : decode cX11_feed 25 = .ok (.aload_n 0, 1) := by decide +kernel
theorem dX11_feed_26 : decode cX11_feed 26 = .ok (.iload_n 3, 1) := by decide +kernel
theorem dX11_feed_27 : decode cX11_feed 27 = .ok (.invokevirtual 95, 3) := by decide +kernel
theorem dX11_feed_30 : decode cX11_feed 30 = .ok (.aload_n 0, 1) := by decide +kernel
theorem dX11_feed_31 : decode cX11_feed 31 = .ok (.iload 4, 2) := by decide +kernel
theorem dX11_feed_33 : decode cX11_feed 33 = .ok (.invokevirtual 95, 3) := by decide +kernel
theorem dX11_feed_36 : decode cX11_feed 36 = .ok (.aload_n 0, 1) := by decide +kernel
theorem dX11_feed_37 : decode cX11_feed 37 = .ok (.iload 5, 2) := by decide +kernel
theorem dX11_feed_39 : decode cX11_feed 39 = .ok (.invokevirtual 95, 3) := by decide +kernel
theorem dX11_feed_42 : decode cX11_feed 42 = .ok (.aload_n 0, 1) := by decide +kernel
theorem dX11_feed_43 : decode cX11_feed 43 = .ok (.getfield 91, 3) := by decide +kernel
theorem dX11_feed_46 : decode cX11_feed 46 = .ok (.ireturn, 1) := by decide +kernel
theorem dX11_text_0 : decode cX11_text 0 = .ok (.iload_n 1, 1) := by decide +kernel
theorem dX11_text_1 : decode cX11_text 1 = .ok (.ifCond .lt 11, 3) := by decide +kernel
theorem dX11_text_4 : decode cX11_text 4 = .ok (.iload_n 1, 1) := by decide +kernel
theorem dX11_text_5 : decode cX11_text 5 = .ok (.aload_n 0, 1) := by decide +kernel
theorem dX11_text_6 : decode cX11_text 6 = .ok (.getfield 91, 3) := by decide +kernel
theorem dX11_text_9 : decode cX11_text 9 = .ok (.if_icmp .le 9, 3) := by decide +kernel
theorem dX11_text_12 : decode cX11_text 12 = .ok (.aload_n 0, 1) := by decide +kernel
theorem dX11_text_13 : decode cX11_text 13 = .ok (.iconst 2, 1) := by decide +kernel
theorem dX11_text_14 : decode cX11_text 14 = .ok (.invokevirtual 99, 3) := by decide +kernel
theorem dX11_text_17 : decode cX11_text 17 = .ok (.ireturn, 1) := by decide +kernel
theorem dX11_text_18 : decode cX11_text 18 = .ok (.aload_n 0, 1) := by decide +kernel
theorem dX11_text_19 : decode cX11_text 19 = .ok (.getfield 16, 3) := by decide +kernel
theorem dX11_text_22 : decode cX11_text 22 = .ok (.aload_n 0, 1) := by decide +kernel
theorem dX11_text_23 : decode cX11_text 23 = .ok (.getfield 9, 3) := by decide +kernel
theorem dX11_text_26 : decode cX11_text 26 = .ok (.iload_n 1, 1) := by decide +kernel
theorem dX11_text_27 : decode cX11_text 27 = .ok (.aload_n 0, 1) := by decide +kernel
theorem dX11_text_28 : decode cX11_text 28 = .ok (.getfield 87, 3) := by decide +kernel
theorem dX11_text_31 : decode cX11_text 31 = .ok (.invokevirtual 103, 3) := by decide +kernel
theorem dX11_text_34 : decode cX11_text 34 = .ok (.istore_n 2, 1) := by decide +kernel
theorem dX11_text_35 : decode cX11_text 35 = .ok (.aload_n 0, 1) := by decide +kernel
theorem dX11_text_36 : decode cX11_text 36 = .ok (.iconst 0, 1) := by decide +kernel
theorem dX11_text_37 : decode cX11_text 37 = .ok (.putfield 91, 3) := by decide +kernel
theorem dX11_text_40 : decode cX11_text 40 = .ok (.aload_n 0, 1) := by decide +kernel
theorem dX11_text_41 : decode cX11_text 41 = .ok (.aload_n 0, 1) := by decide +kernel
theorem dX11_text_42 : decode cX11_text 42 = .ok (.getfield 16, 3) := by decide +kernel
theorem dX11_text_45 : decode cX11_text 45 = .ok (.getfield 107, 3) := by decide +kernel
theorem dX11_text_48 : decode cX11_text 48 = .ok (.putfield 110, 3) := by decide +kernel
theorem dX11_text_51 : decode cX11_text 51 = .ok (.iload_n 2, 1) := by decide +kernel
theorem dX11_text_52 : decode cX11_text 52 = .ok (.ifCond .ne 20, 3) := by decide +kernel
theorem dX11_text_55 : decode cX11_text 55 = .ok (.aload_n 0, 1) := by decide +kernel
theorem dX11_text_56 : decode cX11_text 56 = .ok (.aload_n 0, 1) := by decide +kernel
theorem dX11_text_57 : decode cX11_text 57 = .ok (.getfield 16, 3) := by decide +kernel
theorem dX11_text_60 : decode cX11_text 60 = .ok (.getfield 113, 3) := by decide +kernel
theorem dX11_text_63 : decode cX11_text 63 = .ok (.putfield 116, 3) := by decide +kernel
theorem dX11_text_66 : decode cX11_text 66 = .ok (.aload_n 0, 1) := by decide +kernel
theorem dX11_text_67 : decode cX11_text 67 = .ok (.iconst 4, 1) := by decide +kernel
theorem dX11_text_68 : decode cX11_text 68 = .ok (.invokevirtual 99, 3) := by decide +kernel
theorem dX11_text_71 : decode cX11_text 71 = .ok (.ireturn, 1) := by decide +kernel
theorem dX11_text_72 : decode cX11_text 72 = .ok (.aload_n 0, 1) := by decide +kernel
theorem dX11_text_73 : decode cX11_text 73 = .ok (.getfield 83, 3) := by decide +kernel
theorem dX11_text_76 : decode cX11_text 76 = .ok (.astore_n 3, 1) := by decide +kernel
theorem dX11_text_77 : decode cX11_text 77 = .ok (.aload_n 0, 1) := by decide +kernel
theorem dX11_text_78 : decode cX11_text 78 = .ok (.aload_n 0, 1) := by decide +kernel
theorem dX11_text_79 : decode cX11_text 79 = .ok (.getfield 87, 3) := by decide +kernel
theorem dX11_text_82 : decode cX11_text 82 = .ok (.putfield 83, 3) := by decide +kernel
theorem dX11_text_85 : decode cX11_text 85 = .ok (.aload_n 0, 1) := by decide +kernel
theorem dX11_text_86 : decode cX11_text 86 = .ok (.aload_n 3, 1) := by decide +kernel
theorem dX11_text_87 : decode cX11_text 87 = .ok (.putfield 87, 3) := by decide +kernel
theorem dX11_text_90 : decode cX11_text 90 = .ok (.aload_n 0, 1) := by decide +kernel
theorem dX11_text_91 : decode cX11_text 91 = .ok (.invokevirtual 119, 3) := by decide +kernel
theorem dX11_text_94 : decode cX11_text 94 = .ok (.aload_n 0, 1) := by decide +kernel
theorem dX11_text_95 : decode cX11_text 95 = .ok (.aload_n 0, 1) := by decide +kernel
theorem dX11_text_96 : decode cX11_text 96 = .ok (.getfield 83, 3) := by decide +kernel
theorem dX11_text_99 : decode cX11_text 99 = .ok (.getfield 122, 3) := by decide +kernel
theorem dX11_text_102 : decode cX11_text 102 = .ok (.invokevirtual 125, 3) := by decide +kernel
theorem dX11_text_105 : decode cX11_text 105 = .ok (.ireturn, 1) := by decide +kernel
theorem dX11_fault_0 : decode cX11_fault 0 = .ok (.aload_n 0, 1) := by decide +kernel
theorem dX11_fault_1 : decode cX11_fault 1 = .ok (.getfield 110, 3) := by decide +kernel
theorem dX11_fault_4 : decode cX11_fault 4 = .ok (.ireturn, 1) := by decide +kernel
theorem dX11_where_0 : decode cX11_where 0 = .ok (.aload_n 0, 1) := by decide +kernel
theorem dX11_where_1 : decode cX11_where 1 = .ok (.getfield 128, 3) := by decide +kernel
theorem dX11_where_4 : decode cX11_where 4 = .ok (.iconst 4, 1) := by decide +kernel
theorem dX11_where_5 : decode cX11_where 5 = .ok (.if_icmp .ne 10, 3) := by decide +kernel
theorem dX11_where_8 : decode cX11_where 8 = .ok (.aload_n 0, 1) := by decide +kernel
theorem dX11_where_9 : decode cX11_where 9 = .ok (.getfield 116, 3) := by decide +kernel
theorem dX11_where_12 : decode cX11_where 12 = .ok (.goto 4, 3) := by decide +kernel
theorem dX11_where_15 : decode cX11_where 15 = .ok (.iconst (-1), 1) := by decide +kernel
theorem dX11_where_16 : decode cX11_where 16 = .ok (.ireturn, 1) := by decide +kernel
theorem dX11_about_0 : decode cX11_about 0 = .ok (.aload_n 0, 1) := by decide +kernel
theorem dX11_about_1 : decode cX11_about 1 = .ok (.getfield 131, 3) := by decide +kernel
theorem dX11_about_4 : decode cX11_about 4 = .ok (.ifCond .ne 9, 3) := by decide +kernel
theorem dX11_about_7 : decode cX11_about 7 = .ok (.aload_n 0, 1) := by decide +kernel
theorem dX11_about_8 : decode cX11_about 8 = .ok (.iconst 1, 1) := by decide +kernel
theorem dX11_about_9 : decode cX11_about 9 = .ok (.invokevirtual 99, 3) := by decide +kernel
theorem dX11_about_12 : decode cX11_about 12 = .ok (.ireturn, 1) := by decide +kernel
theorem dX11_about_13 : decode cX11_about 13 = .ok (.iload_n 1, 1) := by decide +kernel
theorem dX11_about_14 : decode cX11_about 14 = .ok (.tableswitch 262 0 11 #[62, 74, 86, 98, 114, 140, 156, 172, 188, 212, 224, 243], 62) := by decide +kernel
theorem dX11_about_76 : decode cX11_about 76 = .ok (.aload_n 0, 1) := by decide +kernel
theorem dX11_about_77 : decode cX11_about 77 = .ok (.aload_n 0, 1) := by decide +kernel
theorem dX11_about_78 : decode cX11_about 78 = .ok (.getfield 83, 3) := by decide +kernel
theorem dX11_about_81 : decode cX11_about 81 = .ok (.getfield 122, 3) := by decide +kernel
theorem dX11_about_84 : decode cX11_about 84 = .ok (.invokevirtual 125, 3) := by decide +kernel
theorem dX11_about_87 : decode cX11_about 87 = .ok (.ireturn, 1) := by decide +kernel
theorem dX11_about_88 : decode cX11_about 88 = .ok (.aload_n 0, 1) := by decide +kernel
theorem dX11_about_89 : decode cX11_about 89 = .ok (.aload_n 0, 1) := by decide +kernel
theorem dX11_about_90 : decode cX11_about 90 = .ok (.getfield 23, 3) := by decide +kernel
theorem dX11_about_93 : decode cX11_about 93 = .ok (.getfield 135, 3) := by decide +kernel
theorem dX11_about_96 : decode cX11_about 96 = .ok (.invokevirtual 125, 3) := by decide +kernel
theorem dX11_about_99 : decode cX11_about 99 = .ok (.ireturn, 1) := by decide +kernel
theorem dX11_about_100 : decode cX11_about 100 = .ok (.aload_n 0, 1) := by decide +kernel
theorem dX11_about_101 : decode cX11_about 101 = .ok (.aload_n 0, 1) := by decide +kernel
theorem dX11_about_102 : decode cX11_about 102 = .ok (.getfield 23, 3) := by decide +kernel
theorem dX11_about_105 : decode cX11_about 105 = .ok (.invokevirtual 138, 3) := by decide +kernel
theorem dX11_about_108 : decode cX11_about 108 = .ok (.invokevirtual 125, 3) := by decide +kernel
theorem dX11_about_111 : decode cX11_about 111 = .ok (.ireturn, 1) := by decide +kernel
theorem dX11_about_112 : decode cX11_about 112 = .ok (.aload_n 0, 1) := by decide +kernel
theorem dX11_about_113 : decode cX11_about 113 = .ok (.aload_n 0, 1) := by decide +kernel
theorem dX11_about_114 : decode cX11_about 114 = .ok (.getfield 23, 3) := by decide +kernel
theorem dX11_about_117 : decode cX11_about 117 = .ok (.aload_n 0, 1) := by decide +kernel
theorem dX11_about_118 : decode cX11_about 118 = .ok (.getfield 83, 3) := by decide +kernel
theorem dX11_about_121 : decode cX11_about 121 = .ok (.invokevirtual 142, 3) := by decide +kernel
theorem dX11_about_124 : decode cX11_about 124 = .ok (.invokevirtual 125, 3) := by decide +kernel
theorem dX11_about_127 : decode cX11_about 127 = .ok (.ireturn, 1) := by decide +kernel
theorem dX11_about_128 : decode cX11_about 128 = .ok (.aload_n 0, 1) := by decide +kernel
theorem dX11_about_129 : decode cX11_about 129 = .ok (.aload_n 0, 1) := by decide +kernel
theorem dX11_about_130 : decode cX11_about 130 = .ok (.getfield 83, 3) := by decide +kernel
theorem dX11_about_133 : decode cX11_about 133 = .ok (.aload_n 0, 1) := by decide +kernel
theorem dX11_about_134 : decode cX11_about 134 = .ok (.getfield 23, 3) := by decide +kernel
theorem dX11_about_137 : decode cX11_about 137 = .ok (.getfield 146, 3) := by decide +kernel
theorem dX11_about_140 : decode cX11_about 140 = .ok (.aload_n 0, 1) := by decide +kernel
theorem dX11_about_141 : decode cX11_about 141 = .ok (.getfield 23, 3) := by decide +kernel
theorem dX11_about_144 : decode cX11_about 144 = .ok (.getfield 146, 3) := by decide +kernel
theorem dX11_about_147 : decode cX11_about 147 = .ok (.invokevirtual 149, 3) := by decide +kernel
theorem dX11_about_150 : decode cX11_about 150 = .ok (.invokevirtual 125, 3) := by decide +kernel
theorem dX11_about_153 : decode cX11_about 153 = .ok (.ireturn, 1) := by decide +kernel
theorem dX11_about_154 : decode cX11_about 154 = .ok (.aload_n 0, 1) := by decide +kernel
theorem dX11_about_155 : decode cX11_about 155 = .ok (.aload_n 0, 1) := by decide +kernel
theorem dX11_about_156 : decode cX11_about 156 = .ok (.getfield 23, 3) := by decide +kernel
theorem dX11_about_159 : decode cX11_about 159 = .ok (.aload_n 0, 1) := by decide +kernel
theorem dX11_about_160 : decode cX11_about 160 = .ok (.getfield 83, 3) := by decide +kernel
theorem dX11_about_163 : decode cX11_about 163 = .ok (.invokevirtual 153, 3) := by decide +kernel
theorem dX11_about_166 : decode cX11_about 166 = .ok (.invokevirtual 125, 3) := by decide +kernel
theorem dX11_about_169 : decode cX11_about 169 = .ok (.ireturn, 1) := by decide +kernel
theorem dX11_about_170 : decode cX11_about 170 = .ok (.aload_n 0, 1) := by decide +kernel
theorem dX11_about_171 : decode cX11_about 171 = .ok (.aload_n 0, 1) := by decide +kernel
theorem dX11_about_172 : decode cX11_about 172 = .ok (.getfield 23, 3) := by decide +kernel
theorem dX11_about_175 : decode cX11_about 175 = .ok (.aload_n 0, 1) := by decide +kernel
theorem dX11_about_176 : decode cX11_about 176 = .ok (.getfield 83, 3) := by decide +kernel
theorem dX11_about_179 : decode cX11_about 179 = .ok (.invokevirtual 156, 3) := by decide +kernel
theorem dX11_about_182 : decode cX11_about 182 = .ok (.invokevirtual 125, 3) := by decide +kernel
theorem dX11_about_185 : decode cX11_about 185 = .ok (.ireturn, 1) := by decide +kernel
theorem dX11_about_186 : decode cX11_about 186 = .ok (.aload_n 0, 1) := by decide +kernel
theorem dX11_about_187 : decode cX11_about 187 = .ok (.aload_n 0, 1) := by decide +kernel
theorem dX11_about_188 : decode cX11_about 188 = .ok (.getfield 23, 3) := by decide +kernel
theorem dX11_about_191 : decode cX11_about 191 = .ok (.aload_n 0, 1) := by decide +kernel
theorem dX11_about_192 : decode cX11_about 192 = .ok (.getfield 83, 3) := by decide +kernel
theorem dX11_about_195 : decode cX11_about 195 = .ok (.invokevirtual 159, 3) := by decide +kernel
theorem dX11_about_198 : decode cX11_about 198 = .ok (.invokevirtual 125, 3) := by decide +kernel
theorem dX11_about_201 : decode cX11_about 201 = .ok (.ireturn, 1) := by decide +kernel
theorem dX11_about_202 : decode cX11_about 202 = .ok (.aload_n 0, 1) := by decide +kernel
theorem dX11_about_203 : decode cX11_about 203 = .ok (.aload_n 0, 1) := by decide +kernel
theorem dX11_about_204 : decode cX11_about 204 = .ok (.getfield 23, 3) := by decide +kernel
theorem dX11_about_207 : decode cX11_about 207 = .ok (.aload_n 0, 1) := by decide +kernel
theorem dX11_about_208 : decode cX11_about 208 = .ok (.getfield 83, 3) := by decide +kernel
theorem dX11_about_211 : decode cX11_about 211 = .ok (.invokevirtual 162, 3) := by decide +kernel
theorem dX11_about_214 : decode cX11_about 214 = .ok (.ifCond .eq 7, 3) := by decide +kernel
theorem dX11_about_217 : decode cX11_about 217 = .ok (.iconst 1, 1) := by decide +kernel
theorem dX11_about_218 : decode cX11_about 218 = .ok (.goto 4, 3) := by decide +kernel
theorem dX11_about_221 : decode cX11_about 221 = .ok (.iconst 0, 1) := by decide +kernel
theorem dX11_about_222 : decode cX11_about 222 = .ok (.invokevirtual 125, 3) := by decide +kernel
theorem dX11_about_225 : decode cX11_about 225 = .ok (.ireturn, 1) := by decide +kernel
theorem dX11_about_226 : decode cX11_about 226 = .ok (.aload_n 0, 1) := by decide +kernel
theorem dX11_about_227 : decode cX11_about 227 = .ok (.aload_n 0, 1) := by decide +kernel
theorem dX11_about_228 : decode cX11_about 228 = .ok (.getfield 37, 3) := by decide +kernel
theorem dX11_about_231 : decode cX11_about 231 = .ok (.getfield 166, 3) := by decide +kernel
theorem dX11_about_234 : decode cX11_about 234 = .ok (.invokevirtual 125, 3) := by decide +kernel
theorem dX11_about_237 : decode cX11_about 237 = .ok (.ireturn, 1) := by decide +kernel
theorem dX11_about_238 : decode cX11_about 238 = .ok (.aload_n 0, 1) := by decide +kernel
theorem dX11_about_239 : decode cX11_about 239 = .ok (.aload_n 0, 1) := by decide +kernel
theorem dX11_about_240 : decode cX11_about 240 = .ok (.getfield 83, 3) := by decide +kernel
theorem dX11_about_243 : decode cX11_about 243 = .ok (.aload_n 0, 1) := by decide +kernel
theorem dX11_about_244 : decode cX11_about 244 = .ok (.getfield 23, 3) := by decide +kernel
theorem dX11_about_247 : decode cX11_about 247 = .ok (.getfield 146, 3) := by decide +kernel
theorem dX11_about_250 : decode cX11_about 250 = .ok (.invokevirtual 169, 3) := by decide +kernel
theorem dX11_about_253 : decode cX11_about 253 = .ok (.invokevirtual 125, 3) := by decide +kernel
theorem dX11_about_256 : decode cX11_about 256 = .ok (.ireturn, 1) := by decide +kernel
theorem dX11_about_257 : decode cX11_about 257 = .ok (.aload_n 0, 1) := by decide +kernel
theorem dX11_about_258 : decode cX11_about 258 = .ok (.aload_n 0, 1) := by decide +kernel
theorem dX11_about_259 : decode cX11_about 259 = .ok (.getfield 83, 3) := by decide +kernel
theorem dX11_about_262 : decode cX11_about 262 = .ok (.aload_n 0, 1) := by decide +kernel
theorem dX11_about_263 : decode cX11_about 263 = .ok (.getfield 23, 3) := by decide +kernel
theorem dX11_about_266 : decode cX11_about 266 = .ok (.getfield 173, 3) := by decide +kernel
theorem dX11_about_269 : decode cX11_about 269 = .ok (.invokevirtual 169, 3) := by decide +kernel
theorem dX11_about_272 : decode cX11_about 272 = .ok (.invokevirtual 125, 3) := by decide +kernel
theorem dX11_about_275 : decode cX11_about 275 = .ok (.ireturn, 1) := by decide +kernel
theorem dX11_about_276 : decode cX11_about 276 = .ok (.aload_n 0, 1) := by decide +kernel
theorem dX11_about_277 : decode cX11_about 277 = .ok (.iconst 1, 1) := by decide +kernel
theorem dX11_about_278 : decode cX11_about 278 = .ok (.invokevirtual 99, 3) := by decide +kernel
theorem dX11_about_281 : decode cX11_about 281 = .ok (.ireturn, 1) := by decide +kernel
theorem dX11_service_0 : decode cX11_service 0 = .ok (.aload_n 0, 1) := by decide +kernel
theorem dX11_service_1 : decode cX11_service 1 = .ok (.iload_n 1, 1) := by decide +kernel
theorem dX11_service_2 : decode cX11_service 2 = .ok (.invokevirtual 176, 3) := by decide +kernel
theorem dX11_service_5 : decode cX11_service 5 = .ok (.ifCond .eq 9, 3) := by decide +kernel
theorem dX11_service_8 : decode cX11_service 8 = .ok (.aload_n 0, 1) := by decide +kernel
theorem dX11_service_9 : decode cX11_service 9 = .ok (.iconst 1, 1) := by decide +kernel
theorem dX11_service_10 : decode cX11_service 10 = .ok (.invokevirtual 99, 3) := by decide +kernel
theorem dX11_service_13 : decode cX11_service 13 = .ok (.ireturn, 1) := by decide +kernel
theorem dX11_service_14 : decode cX11_service 14 = .ok (.iload_n 2, 1) := by decide +kernel
theorem dX11_service_15 : decode cX11_service 15 = .ok (.tableswitch 160 0 7 #[45, 59, 73, 87, 101, 115, 129, 143], 45) := by decide +kernel
theorem dX11_service_60 : decode cX11_service 60 = .ok (.aload_n 0, 1) := by decide +kernel
theorem dX11_service_61 : decode cX11_service 61 = .ok (.aload_n 0, 1) := by decide +kernel
theorem dX11_service_62 : decode cX11_service 62 = .ok (.getfield 23, 3) := by decide +kernel
theorem dX11_service_65 : decode cX11_service 65 = .ok (.getfield 146, 3) := by decide +kernel
theorem dX11_service_68 : decode cX11_service 68 = .ok (.iload_n 1, 1) := by decide +kernel
theorem dX11_service_69 : decode cX11_service 69 = .ok (.iaload, 1) := by decide +kernel
theorem dX11_service_70 : decode cX11_service 70 = .ok (.invokevirtual 125, 3) := by decide +kernel
theorem dX11_service_73 : decode cX11_service 73 = .ok (.ireturn, 1) := by decide +kernel
theorem dX11_service_74 : decode cX11_service 74 = .ok (.aload_n 0, 1) := by decide +kernel
theorem dX11_service_75 : decode cX11_service 75 = .ok (.aload_n 0, 1) := by decide +kernel
theorem dX11_service_76 : decode cX11_service 76 = .ok (.getfield 23, 3) := by decide +kernel
theorem dX11_service_79 : decode cX11_service 79 = .ok (.getfield 173, 3) := by decide +kernel
theorem dX11_service_82 : decode cX11_service 82 = .ok (.iload_n 1, 1) := by decide +kernel
theorem dX11_service_83 : decode cX11_service 83 = .ok (.iaload, 1) := by decide +kernel
theorem dX11_service_84 : decode cX11_service 84 = .ok (.invokevirtual 125, 3) := by decide +kernel
theorem dX11_service_87 : decode cX11_service 87 = .ok (.ireturn, 1) := by decide +kernel
theorem dX11_service_88 : decode cX11_service 88 = .ok (.aload_n 0, 1) := by decide +kernel
theorem dX11_service_89 : decode cX11_service 89 = .ok (.aload_n 0, 1) := by decide +kernel
theorem dX11_service_90 : decode cX11_service 90 = .ok (.getfield 83, 3) := by decide +kernel
theorem dX11_service_93 : decode cX11_service 93 = .ok (.iconst 1, 1) := by decide +kernel
theorem dX11_service_94 : decode cX11_service 94 = .ok (.iload_n 1, 1) := by decide +kernel
theorem dX11_service_95 : decode cX11_service 95 = .ok (.invokevirtual 180, 3) := by decide +kernel
theorem dX11_service_98 : decode cX11_service 98 = .ok (.invokevirtual 125, 3) := by decide +kernel
theorem dX11_service_101 : decode cX11_service 101 = .ok (.ireturn, 1) := by decide +kernel
theorem dX11_service_102 : decode cX11_service 102 = .ok (.aload_n 0, 1) := by decide +kernel
theorem dX11_service_103 : decode cX11_service 103 = .ok (.aload_n 0, 1) := by decide +kernel
theorem dX11_service_104 : decode cX11_service 104 = .ok (.getfield 83, 3) := by decide +kernel
theorem dX11_service_107 : decode cX11_service 107 = .ok (.iconst 2, 1) := by decide +kernel
theorem dX11_service_108 : decode cX11_service 108 = .ok (.iload_n 1, 1) := by decide +kernel
theorem dX11_service_109 : decode cX11_service 109 = .ok (.invokevirtual 180, 3) := by decide +kernel
theorem dX11_service_112 : decode cX11_service 112 = .ok (.invokevirtual 125, 3) := by decide +kernel
theorem dX11_service_115 : decode cX11_service 115 = .ok (.ireturn, 1) := by decide +kernel
theorem dX11_service_116 : decode cX11_service 116 = .ok (.aload_n 0, 1) := by decide +kernel
theorem dX11_service_117 : decode cX11_service 117 = .ok (.aload_n 0, 1) := by decide +kernel
theorem dX11_service_118 : decode cX11_service 118 = .ok (.getfield 83, 3) := by decide +kernel
theorem dX11_service_121 : decode cX11_service 121 = .ok (.iconst 3, 1) := by decide +kernel
theorem dX11_service_122 : decode cX11_service 122 = .ok (.iload_n 1, 1) := by decide +kernel
theorem dX11_service_123 : decode cX11_service 123 = .ok (.invokevirtual 180, 3) := by decide +kernel
theorem dX11_service_126 : decode cX11_service 126 = .ok (.invokevirtual 125, 3) := by decide +kernel
theorem dX11_service_129 : decode cX11_service 129 = .ok (.ireturn, 1) := by decide +kernel
theorem dX11_service_130 : decode cX11_service 130 = .ok (.aload_n 0, 1) := by decide +kernel
theorem dX11_service_131 : decode cX11_service 131 = .ok (.aload_n 0, 1) := by decide +kernel
theorem dX11_service_132 : decode cX11_service 132 = .ok (.getfield 23, 3) := by decide +kernel
theorem dX11_service_135 : decode cX11_service 135 = .ok (.getfield 184, 3) := by decide +kernel
theorem dX11_service_138 : decode cX11_service 138 = .ok (.iload_n 1, 1) := by decide +kernel
theorem dX11_service_139 : decode cX11_service 139 = .ok (.iaload, 1) := by decide +kernel
theorem dX11_service_140 : decode cX11_service 140 = .ok (.invokevirtual 125, 3) := by decide +kernel
theorem dX11_service_143 : decode cX11_service 143 = .ok (.ireturn, 1) := by decide +kernel
theorem dX11_service_144 : decode cX11_service 144 = .ok (.aload_n 0, 1) := by decide +kernel
theorem dX11_service_145 : decode cX11_service 145 = .ok (.aload_n 0, 1) := by decide +kernel
theorem dX11_service_146 : decode cX11_service 146 = .ok (.getfield 83, 3) := by decide +kernel
theorem dX11_service_149 : decode cX11_service 149 = .ok (.iconst 5, 1) := by decide +kernel
theorem dX11_service_150 : decode cX11_service 150 = .ok (.iload_n 1, 1) := by decide +kernel
theorem dX11_service_151 : decode cX11_service 151 = .ok (.invokevirtual 180, 3) := by decide +kernel
theorem dX11_service_154 : decode cX11_service 154 = .ok (.invokevirtual 125, 3) := by decide +kernel
theorem dX11_service_157 : decode cX11_service 157 = .ok (.ireturn, 1) := by decide +kernel
theorem dX11_service_158 : decode cX11_service 158 = .ok (.aload_n 0, 1) := by decide +kernel
theorem dX11_service_159 : decode cX11_service 159 = .ok (.aload_n 0, 1) := by decide +kernel
theorem dX11_service_160 : decode cX11_service 160 = .ok (.getfield 23, 3) := by decide +kernel
theorem dX11_service_163 : decode cX11_service 163 = .ok (.aload_n 0, 1) := by decide +kernel
theorem dX11_service_164 : decode cX11_service 164 = .ok (.getfield 83, 3) := by decide +kernel
theorem dX11_service_167 : decode cX11_service 167 = .ok (.iload_n 1, 1) := by decide +kernel
theorem dX11_service_168 : decode cX11_service 168 = .ok (.invokevirtual 187, 3) := by decide +kernel
theorem dX11_service_171 : decode cX11_service 171 = .ok (.invokevirtual 125, 3) := by decide +kernel
theorem dX11_service_174 : decode cX11_service 174 = .ok (.ireturn, 1) := by decide +kernel
theorem dX11_service_175 : decode cX11_service 175 = .ok (.aload_n 0, 1) := by decide +kernel
theorem dX11_service_176 : decode cX11_service 176 = .ok (.iconst 1, 1) := by decide +kernel
theorem dX11_service_177 : decode cX11_service 177 = .ok (.invokevirtual 99, 3) := by decide +kernel
theorem dX11_service_180 : decode cX11_service 180 = .ok (.ireturn, 1) := by decide +kernel
theorem dX11_rule_0 : decode cX11_rule 0 = .ok (.aload_n 0, 1) := by decide +kernel
theorem dX11_rule_1 : decode cX11_rule 1 = .ok (.getfield 131, 3) := by decide +kernel
theorem dX11_rule_4 : decode cX11_rule 4 = .ok (.ifCond .eq 12, 3) := by decide +kernel
theorem dX11_rule_7 : decode cX11_rule 7 = .ok (.iload_n 1, 1) := by decide +kernel
theorem dX11_rule_8 : decode cX11_rule 8 = .ok (.ifCond .lt 8, 3) := by decide +kernel
theorem dX11_rule_11 : decode cX11_rule 11 = .ok (.iload_n 1, 1) := by decide +kernel
theorem dX11_rule_12 : decode cX11_rule 12 = .ok (.iconst 4, 1) := by decide +kernel
theorem dX11_rule_13 : decode cX11_rule 13 = .ok (.if_icmp .lt 9, 3) := by decide +kernel
theorem dX11_rule_16 : decode cX11_rule 16 = .ok (.aload_n 0, 1) := by decide +kernel
theorem dX11_rule_17 : decode cX11_rule 17 = .ok (.iconst 1, 1) := by decide +kernel
theorem dX11_rule_18 : decode cX11_rule 18 = .ok (.invokevirtual 99, 3) := by decide +kernel
theorem dX11_rule_21 : decode cX11_rule 21 = .ok (.ireturn, 1) := by decide +kernel
theorem dX11_rule_22 : decode cX11_rule 22 = .ok (.aload_n 0, 1) := by decide +kernel
theorem dX11_rule_23 : decode cX11_rule 23 = .ok (.aload_n 0, 1) := by decide +kernel
theorem dX11_rule_24 : decode cX11_rule 24 = .ok (.getfield 23, 3) := by decide +kernel
theorem dX11_rule_27 : decode cX11_rule 27 = .ok (.getfield 191, 3) := by decide +kernel
theorem dX11_rule_30 : decode cX11_rule 30 = .ok (.iload_n 1, 1) := by decide +kernel
theorem dX11_rule_31 : decode cX11_rule 31 = .ok (.iaload, 1) := by decide +kernel
theorem dX11_rule_32 : decode cX11_rule 32 = .ok (.invokevirtual 125, 3) := by decide +kernel
theorem dX11_rule_35 : decode cX11_rule 35 = .ok (.ireturn, 1) := by decide +kernel
theorem dX11_carried_0 : decode cX11_carried 0 = .ok (.aload_n 0, 1) := by decide +kernel
theorem dX11_carried_1 : decode cX11_carried 1 = .ok (.getfield 131, 3) := by decide +kernel
theorem dX11_carried_4 : decode cX11_carried 4 = .ok (.ifCond .eq 12, 3) := by decide +kernel
theorem dX11_carried_7 : decode cX11_carried 7 = .ok (.iload_n 1, 1) := by decide +kernel
theorem dX11_carried_8 : decode cX11_carried 8 = .ok (.ifCond .lt 8, 3) := by decide +kernel
theorem dX11_carried_11 : decode cX11_carried 11 = .ok (.iload_n 1, 1) := by decide +kernel
theorem dX11_carried_12 : decode cX11_carried 12 = .ok (.iconst 1, 1) := by decide +kernel
theorem dX11_carried_13 : decode cX11_carried 13 = .ok (.if_icmp .le 9, 3) := by decide +kernel
theorem dX11_carried_16 : decode cX11_carried 16 = .ok (.aload_n 0, 1) := by decide +kernel
theorem dX11_carried_17 : decode cX11_carried 17 = .ok (.iconst 1, 1) := by decide +kernel
theorem dX11_carried_18 : decode cX11_carried 18 = .ok (.invokevirtual 99, 3) := by decide +kernel
theorem dX11_carried_21 : decode cX11_carried 21 = .ok (.ireturn, 1) := by decide +kernel
theorem dX11_carried_22 : decode cX11_carried 22 = .ok (.aload_n 0, 1) := by decide +kernel
theorem dX11_carried_23 : decode cX11_carried 23 = .ok (.iload_n 1, 1) := by decide +kernel
theorem dX11_carried_24 : decode cX11_carried 24 = .ok (.ifCond .ne 13, 3) := by decide +kernel
theorem dX11_carried_27 : decode cX11_carried 27 = .ok (.aload_n 0, 1) := by decide +kernel
theorem dX11_carried_28 : decode cX11_carried 28 = .ok (.getfield 23, 3) := by decide +kernel
theorem dX11_carried_31 : decode cX11_carried 31 = .ok (.getfield 194, 3) := by decide +kernel
theorem dX11_carried_34 : decode cX11_carried 34 = .ok (.goto 14, 3) := by decide +kernel
theorem dX11_carried_37 : decode cX11_carried 37 = .ok (.aload_n 0, 1) := by decide +kernel
theorem dX11_carried_38 : decode cX11_carried 38 = .ok (.getfield 23, 3) := by decide +kernel
theorem dX11_carried_41 : decode cX11_carried 41 = .ok (.aload_n 0, 1) := by decide +kernel
theorem dX11_carried_42 : decode cX11_carried 42 = .ok (.getfield 83, 3) := by decide +kernel
theorem dX11_carried_45 : decode cX11_carried 45 = .ok (.invokevirtual 197, 3) := by decide +kernel
theorem dX11_carried_48 : decode cX11_carried 48 = .ok (.invokevirtual 125, 3) := by decide +kernel
theorem dX11_carried_51 : decode cX11_carried 51 = .ok (.ireturn, 1) := by decide +kernel
theorem dX11_bought_0 : decode cX11_bought 0 = .ok (.aload_n 0, 1) := by decide +kernel
theorem dX11_bought_1 : decode cX11_bought 1 = .ok (.aload_n 0, 1) := by decide +kernel
theorem dX11_bought_2 : decode cX11_bought 2 = .ok (.getfield 83, 3) := by decide +kernel
theorem dX11_bought_5 : decode cX11_bought 5 = .ok (.getfield 200, 3) := by decide +kernel
theorem dX11_bought_8 : decode cX11_bought 8 = .ok (.iload_n 1, 1) := by decide +kernel
theorem dX11_bought_9 : decode cX11_bought 9 = .ok (.iload_n 2, 1) := by decide +kernel
theorem dX11_bought_10 : decode cX11_bought 10 = .ok (.invokevirtual 203, 3) := by decide +kernel
theorem dX11_bought_13 : decode cX11_bought 13 = .ok (.ireturn, 1) := by decide +kernel
theorem dX11_profit_0 : decode cX11_profit 0 = .ok (.aload_n 0, 1) := by decide +kernel
theorem dX11_profit_1 : decode cX11_profit 1 = .ok (.aload_n 0, 1) := by decide +kernel
theorem dX11_profit_2 : decode cX11_profit 2 = .ok (.getfield 83, 3) := by decide +kernel
theorem dX11_profit_5 : decode cX11_profit 5 = .ok (.getfield 207, 3) := by decide +kernel
theorem dX11_profit_8 : decode cX11_profit 8 = .ok (.iload_n 1, 1) := by decide +kernel
theorem dX11_profit_9 : decode cX11_profit 9 = .ok (.iload_n 2, 1) := by decide +kernel
theorem dX11_profit_10 : decode cX11_profit 10 = .ok (.invokevirtual 203, 3) := by decide +kernel
theorem dX11_profit_13 : decode cX11_profit 13 = .ok (.ireturn, 1) := by decide +kernel
theorem dX11_good_0 : decode cX11_good 0 = .ok (.aload_n 0, 1) := by decide +kernel
theorem dX11_good_1 : decode cX11_good 1 = .ok (.aload_n 0, 1) := by decide +kernel
theorem dX11_good_2 : decode cX11_good 2 = .ok (.getfield 83, 3) := by decide +kernel
theorem dX11_good_5 : decode cX11_good 5 = .ok (.getfield 210, 3) := by decide +kernel
theorem dX11_good_8 : decode cX11_good 8 = .ok (.iload_n 1, 1) := by decide +kernel
theorem dX11_good_9 : decode cX11_good 9 = .ok (.iload_n 2, 1) := by decide +kernel
theorem dX11_good_10 : decode cX11_good 10 = .ok (.invokevirtual 203, 3) := by decide +kernel
theorem dX11_good_13 : decode cX11_good 13 = .ok (.ireturn, 1) := by decide +kernel
theorem dX11_most_0 : decode cX11_most 0 = .ok (.aload_n 0, 1) := by decide +kernel
theorem dX11_most_1 : decode cX11_most 1 = .ok (.iload_n 1, 1) := by decide +kernel
theorem dX11_most_2 : decode cX11_most 2 = .ok (.invokevirtual 176, 3) := by decide +kernel
theorem dX11_most_5 : decode cX11_most 5 = .ok (.ifCond .eq 9, 3) := by decide +kernel
theorem dX11_most_8 : decode cX11_most 8 = .ok (.aload_n 0, 1) := by decide +kernel
theorem dX11_most_9 : decode cX11_most 9 = .ok (.iconst 1, 1) := by decide +kernel
theorem dX11_most_10 : decode cX11_most 10 = .ok (.invokevirtual 99, 3) := by decide +kernel
theorem dX11_most_13 : decode cX11_most 13 = .ok (.ireturn, 1) := by decide +kernel
theorem dX11_most_14 : decode cX11_most 14 = .ok (.aload_n 0, 1) := by decide +kernel
theorem dX11_most_15 : decode cX11_most 15 = .ok (.getfield 23, 3) := by decide +kernel
theorem dX11_most_18 : decode cX11_most 18 = .ok (.aload_n 0, 1) := by decide +kernel
theorem dX11_most_19 : decode cX11_most 19 = .ok (.getfield 83, 3) := by decide +kernel
theorem dX11_most_22 : decode cX11_most 22 = .ok (.invokevirtual 156, 3) := by decide +kernel
theorem dX11_most_25 : decode cX11_most 25 = .ok (.istore_n 2, 1) := by decide +kernel
theorem dX11_most_26 : decode cX11_most 26 = .ok (.bipush 20, 2) := by decide +kernel
theorem dX11_most_28 : decode cX11_most 28 = .ok (.istore_n 3, 1) := by decide +kernel
theorem dX11_most_29 : decode cX11_most 29 = .ok (.iload_n 3, 1) := by decide +kernel
theorem dX11_most_30 : decode cX11_most 30 = .ok (.ifCond .lt 32, 3) := by decide +kernel
theorem dX11_most_33 : decode cX11_most 33 = .ok (.aload_n 0, 1) := by decide +kernel
theorem dX11_most_34 : decode cX11_most 34 = .ok (.getfield 23, 3) := by decide +kernel
theorem dX11_most_37 : decode cX11_most 37 = .ok (.aload_n 0, 1) := by decide +kernel
theorem dX11_most_38 : decode cX11_most 38 = .ok (.getfield 83, 3) := by decide +kernel
theorem dX11_most_41 : decode cX11_most 41 = .ok (.iload_n 1, 1) := by decide +kernel
theorem dX11_most_42 : decode cX11_most 42 = .ok (.iload_n 3, 1) := by decide +kernel
theorem dX11_most_43 : decode cX11_most 43 = .ok (.invokevirtual 213, 3) := by decide +kernel
theorem dX11_most_46 : decode cX11_most 46 = .ok (.iload_n 2, 1) := by decide +kernel
theorem dX11_most_47 : decode cX11_most 47 = .ok (.if_icmp .gt 9, 3) := by decide +kernel
theorem dX11_most_50 : decode cX11_most 50 = .ok (.aload_n 0, 1) := by decide +kernel
theorem dX11_most_51 : decode cX11_most 51 = .ok (.iload_n 3, 1) := by decide +kernel
theorem dX11_most_52 : decode cX11_most 52 = .ok (.invokevirtual 125, 3) := by decide +kernel
theorem dX11_most_55 : decode cX11_most 55 = .ok (.ireturn, 1) := by decide +kernel
theorem dX11_most_56 : decode cX11_most 56 = .ok (.iinc 3 (-1), 3) := by decide +kernel
theorem dX11_most_59 : decode cX11_most 59 = .ok (.goto (-30), 3) := by decide +kernel
theorem dX11_most_62 : decode cX11_most 62 = .ok (.aload_n 0, 1) := by decide +kernel
theorem dX11_most_63 : decode cX11_most 63 = .ok (.bipush (-2), 2) := by decide +kernel
theorem dX11_most_65 : decode cX11_most 65 = .ok (.invokevirtual 125, 3) := by decide +kernel
theorem dX11_most_68 : decode cX11_most 68 = .ok (.ireturn, 1) := by decide +kernel
theorem dX11_free_0 : decode cX11_free 0 = .ok (.aload_n 0, 1) := by decide +kernel
theorem dX11_free_1 : decode cX11_free 1 = .ok (.iload_n 1, 1) := by decide +kernel
theorem dX11_free_2 : decode cX11_free 2 = .ok (.invokevirtual 176, 3) := by decide +kernel
theorem dX11_free_5 : decode cX11_free 5 = .ok (.ifCond .eq 9, 3) := by decide +kernel
theorem dX11_free_8 : decode cX11_free 8 = .ok (.aload_n 0, 1) := by decide +kernel
theorem dX11_free_9 : decode cX11_free 9 = .ok (.iconst 1, 1) := by decide +kernel
theorem dX11_free_10 : decode cX11_free 10 = .ok (.invokevirtual 99, 3) := by decide +kernel
theorem dX11_free_13 : decode cX11_free 13 = .ok (.ireturn, 1) := by decide +kernel
theorem dX11_free_14 : decode cX11_free 14 = .ok (.aload_n 0, 1) := by decide +kernel
theorem dX11_free_15 : decode cX11_free 15 = .ok (.aload_n 0, 1) := by decide +kernel
theorem dX11_free_16 : decode cX11_free 16 = .ok (.getfield 83, 3) := by decide +kernel
theorem dX11_free_19 : decode cX11_free 19 = .ok (.iload_n 1, 1) := by decide +kernel
theorem dX11_free_20 : decode cX11_free 20 = .ok (.invokevirtual 217, 3) := by decide +kernel
theorem dX11_free_23 : decode cX11_free 23 = .ok (.invokevirtual 125, 3) := by decide +kernel
theorem dX11_free_26 : decode cX11_free 26 = .ok (.ireturn, 1) := by decide +kernel
theorem dX11_best_0 : decode cX11_best 0 = .ok (.aload_n 0, 1) := by decide +kernel
theorem dX11_best_1 : decode cX11_best 1 = .ok (.aload_n 0, 1) := by decide +kernel
theorem dX11_best_2 : decode cX11_best 2 = .ok (.getfield 131, 3) := by decide +kernel
theorem dX11_best_5 : decode cX11_best 5 = .ok (.ifCond .eq 21, 3) := by decide +kernel
theorem dX11_best_8 : decode cX11_best 8 = .ok (.aload_n 0, 1) := by decide +kernel
theorem dX11_best_9 : decode cX11_best 9 = .ok (.getfield 59, 3) := by decide +kernel
theorem dX11_best_12 : decode cX11_best 12 = .ok (.aload_n 0, 1) := by decide +kernel
theorem dX11_best_13 : decode cX11_best 13 = .ok (.getfield 83, 3) := by decide +kernel
theorem dX11_best_16 : decode cX11_best 16 = .ok (.aload_n 0, 1) := by decide +kernel
theorem dX11_best_17 : decode cX11_best 17 = .ok (.getfield 23, 3) := by decide +kernel
theorem dX11_best_20 : decode cX11_best 20 = .ok (.invokevirtual 220, 3) := by decide +kernel
theorem dX11_best_23 : decode cX11_best 23 = .ok (.goto 4, 3) := by decide +kernel
theorem dX11_best_26 : decode cX11_best 26 = .ok (.aconst_null, 1) := by decide +kernel
theorem dX11_best_27 : decode cX11_best 27 = .ok (.invokevirtual 224, 3) := by decide +kernel
theorem dX11_best_30 : decode cX11_best 30 = .ok (.ireturn, 1) := by decide +kernel
theorem dX11_bestOf_0 : decode cX11_bestOf 0 = .ok (.aload_n 0, 1) := by decide +kernel
theorem dX11_bestOf_1 : decode cX11_bestOf 1 = .ok (.aload_n 0, 1) := by decide +kernel
theorem dX11_bestOf_2 : decode cX11_bestOf 2 = .ok (.iload_n 1, 1) := by decide +kernel
theorem dX11_bestOf_3 : decode cX11_bestOf 3 = .ok (.invokevirtual 176, 3) := by decide +kernel
theorem dX11_bestOf_6 : decode cX11_bestOf 6 = .ok (.ifCond .eq 7, 3) := by decide +kernel
theorem dX11_bestOf_9 : decode cX11_bestOf 9 = .ok (.aconst_null, 1) := by decide +kernel
theorem dX11_bestOf_10 : decode cX11_bestOf 10 = .ok (.goto 18, 3) := by decide +kernel
theorem dX11_bestOf_13 : decode cX11_bestOf 13 = .ok (.aload_n 0, 1) := by decide +kernel
theorem dX11_bestOf_14 : decode cX11_bestOf 14 = .ok (.getfield 59, 3) := by decide +kernel
theorem dX11_bestOf_17 : decode cX11_bestOf 17 = .ok (.aload_n 0, 1) := by decide +kernel
theorem dX11_bestOf_18 : decode cX11_bestOf 18 = .ok (.getfield 83, 3) := by decide +kernel
theorem dX11_bestOf_21 : decode cX11_bestOf 21 = .ok (.aload_n 0, 1) := by decide +kernel
theorem dX11_bestOf_22 : decode cX11_bestOf 22 = .ok (.getfield 23, 3) := by decide +kernel
theorem dX11_bestOf_25 : decode cX11_bestOf 25 = .ok (.invokevirtual 220, 3) := by decide +kernel
theorem dX11_bestOf_28 : decode cX11_bestOf 28 = .ok (.iload_n 1, 1) := by decide +kernel
theorem dX11_bestOf_29 : decode cX11_bestOf 29 = .ok (.invokevirtual 228, 3) := by decide +kernel
theorem dX11_bestOf_32 : decode cX11_bestOf 32 = .ok (.ireturn, 1) := by decide +kernel
theorem dX11_fair_0 : decode cX11_fair 0 = .ok (.aload_n 0, 1) := by decide +kernel
theorem dX11_fair_1 : decode cX11_fair 1 = .ok (.aload_n 0, 1) := by decide +kernel
theorem dX11_fair_2 : decode cX11_fair 2 = .ok (.getfield 131, 3) := by decide +kernel
theorem dX11_fair_5 : decode cX11_fair 5 = .ok (.ifCond .eq 21, 3) := by decide +kernel
theorem dX11_fair_8 : decode cX11_fair 8 = .ok (.aload_n 0, 1) := by decide +kernel
theorem dX11_fair_9 : decode cX11_fair 9 = .ok (.getfield 59, 3) := by decide +kernel
theorem dX11_fair_12 : decode cX11_fair 12 = .ok (.aload_n 0, 1) := by decide +kernel
theorem dX11_fair_13 : decode cX11_fair 13 = .ok (.getfield 83, 3) := by decide +kernel
theorem dX11_fair_16 : decode cX11_fair 16 = .ok (.aload_n 0, 1) := by decide +kernel
theorem dX11_fair_17 : decode cX11_fair 17 = .ok (.getfield 23, 3) := by decide +kernel
theorem dX11_fair_20 : decode cX11_fair 20 = .ok (.invokevirtual 232, 3) := by decide +kernel
theorem dX11_fair_23 : decode cX11_fair 23 = .ok (.goto 4, 3) := by decide +kernel
theorem dX11_fair_26 : decode cX11_fair 26 = .ok (.aconst_null, 1) := by decide +kernel
theorem dX11_fair_27 : decode cX11_fair 27 = .ok (.invokevirtual 224, 3) := by decide +kernel
theorem dX11_fair_30 : decode cX11_fair 30 = .ok (.ireturn, 1) := by decide +kernel
theorem dX11_fairOf_0 : decode cX11_fairOf 0 = .ok (.aload_n 0, 1) := by decide +kernel
theorem dX11_fairOf_1 : decode cX11_fairOf 1 = .ok (.aload_n 0, 1) := by decide +kernel
theorem dX11_fairOf_2 : decode cX11_fairOf 2 = .ok (.iload_n 1, 1) := by decide +kernel
theorem dX11_fairOf_3 : decode cX11_fairOf 3 = .ok (.invokevirtual 176, 3) := by decide +kernel
theorem dX11_fairOf_6 : decode cX11_fairOf 6 = .ok (.ifCond .eq 7, 3) := by decide +kernel
theorem dX11_fairOf_9 : decode cX11_fairOf 9 = .ok (.aconst_null, 1) := by decide +kernel
theorem dX11_fairOf_10 : decode cX11_fairOf 10 = .ok (.goto 18, 3) := by decide +kernel
theorem dX11_fairOf_13 : decode cX11_fairOf 13 = .ok (.aload_n 0, 1) := by decide +kernel
theorem dX11_fairOf_14 : decode cX11_fairOf 14 = .ok (.getfield 59, 3) := by decide +kernel
theorem dX11_fairOf_17 : decode cX11_fairOf 17 = .ok (.aload_n 0, 1) := by decide +kernel
theorem dX11_fairOf_18 : decode cX11_fairOf 18 = .ok (.getfield 83, 3) := by decide +kernel
theorem dX11_fairOf_21 : decode cX11_fairOf 21 = .ok (.aload_n 0, 1) := by decide +kernel
theorem dX11_fairOf_22 : decode cX11_fairOf 22 = .ok (.getfield 23, 3) := by decide +kernel
theorem dX11_fairOf_25 : decode cX11_fairOf 25 = .ok (.invokevirtual 232, 3) := by decide +kernel
theorem dX11_fairOf_28 : decode cX11_fairOf 28 = .ok (.iload_n 1, 1) := by decide +kernel
theorem dX11_fairOf_29 : decode cX11_fairOf 29 = .ok (.invokevirtual 228, 3) := by decide +kernel
theorem dX11_fairOf_32 : decode cX11_fairOf 32 = .ok (.ireturn, 1) := by decide +kernel
theorem dX11_rows_0 : decode cX11_rows 0 = .ok (.aload_n 0, 1) := by decide +kernel
theorem dX11_rows_1 : decode cX11_rows 1 = .ok (.getfield 131, 3) := by decide +kernel
theorem dX11_rows_4 : decode cX11_rows 4 = .ok (.ifCond .ne 9, 3) := by decide +kernel
theorem dX11_rows_7 : decode cX11_rows 7 = .ok (.aload_n 0, 1) := by decide +kernel
theorem dX11_rows_8 : decode cX11_rows 8 = .ok (.iconst 1, 1) := by decide +kernel
theorem dX11_rows_9 : decode cX11_rows 9 = .ok (.invokevirtual 99, 3) := by decide +kernel
theorem dX11_rows_12 : decode cX11_rows 12 = .ok (.ireturn, 1) := by decide +kernel
theorem dX11_rows_13 : decode cX11_rows 13 = .ok (.aload_n 0, 1) := by decide +kernel
theorem dX11_rows_14 : decode cX11_rows 14 = .ok (.aload_n 0, 1) := by decide +kernel
theorem dX11_rows_15 : decode cX11_rows 15 = .ok (.getfield 59, 3) := by decide +kernel
theorem dX11_rows_18 : decode cX11_rows 18 = .ok (.aload_n 0, 1) := by decide +kernel
theorem dX11_rows_19 : decode cX11_rows 19 = .ok (.getfield 83, 3) := by decide +kernel
theorem dX11_rows_22 : decode cX11_rows 22 = .ok (.aload_n 0, 1) := by decide +kernel
theorem dX11_rows_23 : decode cX11_rows 23 = .ok (.getfield 23, 3) := by decide +kernel
theorem dX11_rows_26 : decode cX11_rows 26 = .ok (.invokevirtual 235, 3) := by decide +kernel
theorem dX11_rows_29 : decode cX11_rows 29 = .ok (.invokevirtual 125, 3) := by decide +kernel
theorem dX11_rows_32 : decode cX11_rows 32 = .ok (.ireturn, 1) := by decide +kernel
theorem dX11_freely_0 : decode cX11_freely 0 = .ok (.aload_n 0, 1) := by decide +kernel
theorem dX11_freely_1 : decode cX11_freely 1 = .ok (.iload_n 1, 1) := by decide +kernel
theorem dX11_freely_2 : decode cX11_freely 2 = .ok (.invokevirtual 176, 3) := by decide +kernel
theorem dX11_freely_5 : decode cX11_freely 5 = .ok (.ifCond .eq 9, 3) := by decide +kernel
theorem dX11_freely_8 : decode cX11_freely 8 = .ok (.aload_n 0, 1) := by decide +kernel
theorem dX11_freely_9 : decode cX11_freely 9 = .ok (.iconst 1, 1) := by decide +kernel
theorem dX11_freely_10 : decode cX11_freely 10 = .ok (.invokevirtual 99, 3) := by decide +kernel
theorem dX11_freely_13 : decode cX11_freely 13 = .ok (.ireturn, 1) := by decide +kernel
theorem dX11_freely_14 : decode cX11_freely 14 = .ok (.aload_n 0, 1) := by decide +kernel
theorem dX11_freely_15 : decode cX11_freely 15 = .ok (.getfield 23, 3) := by decide +kernel
theorem dX11_freely_18 : decode cX11_freely 18 = .ok (.aload_n 0, 1) := by decide +kernel
theorem dX11_freely_19 : decode cX11_freely 19 = .ok (.getfield 83, 3) := by decide +kernel
theorem dX11_freely_22 : decode cX11_freely 22 = .ok (.invokevirtual 156, 3) := by decide +kernel
theorem dX11_freely_25 : decode cX11_freely 25 = .ok (.istore_n 2, 1) := by decide +kernel
theorem dX11_freely_26 : decode cX11_freely 26 = .ok (.aload_n 0, 1) := by decide +kernel
theorem dX11_freely_27 : decode cX11_freely 27 = .ok (.getfield 83, 3) := by decide +kernel
theorem dX11_freely_30 : decode cX11_freely 30 = .ok (.getfield 207, 3) := by decide +kernel
theorem dX11_freely_33 : decode cX11_freely 33 = .ok (.iload_n 1, 1) := by decide +kernel
theorem dX11_freely_34 : decode cX11_freely 34 = .ok (.bipush 21, 2) := by decide +kernel
theorem dX11_freely_36 : decode cX11_freely 36 = .ok (.imul, 1) := by decide +kernel
theorem dX11_freely_37 : decode cX11_freely 37 = .ok (.aload_n 0, 1) := by decide +kernel
theorem dX11_freely_38 : decode cX11_freely 38 = .ok (.getfield 23, 3) := by decide +kernel
theorem dX11_freely_41 : decode cX11_freely 41 = .ok (.getfield 173, 3) := by decide +kernel
theorem dX11_freely_44 : decode cX11_freely 44 = .ok (.iload_n 1, 1) := by decide +kernel
theorem dX11_freely_45 : decode cX11_freely 45 = .ok (.iaload, 1) := by decide +kernel
theorem dX11_freely_46 : decode cX11_freely 46 = .ok (.iadd, 1) := by decide +kernel
theorem dX11_freely_47 : decode cX11_freely 47 = .ok (.iaload, 1) := by decide +kernel
theorem dX11_freely_48 : decode cX11_freely 48 = .ok (.istore_n 3, 1) := by decide +kernel
theorem dX11_freely_49 : decode cX11_freely 49 = .ok (.iconst 0, 1) := by decide +kernel
theorem dX11_freely_50 : decode cX11_freely 50 = .ok (.istore 4, 2) := by decide +kernel
theorem dX11_freely_52 : decode cX11_freely 52 = .ok (.iconst 0, 1) := by decide +kernel
theorem dX11_freely_53 : decode cX11_freely 53 = .ok (.istore 5, 2) := by decide +kernel
theorem dX11_freely_55 : decode cX11_freely 55 = .ok (.iload 5, 2) := by decide +kernel
theorem dX11_freely_57 : decode cX11_freely 57 = .ok (.bipush 20, 2) := by decide +kernel
theorem dX11_freely_59 : decode cX11_freely 59 = .ok (.if_icmp .gt 49, 3) := by decide +kernel
theorem dX11_freely_62 : decode cX11_freely 62 = .ok (.aload_n 0, 1) := by decide +kernel
theorem dX11_freely_63 : decode cX11_freely 63 = .ok (.getfield 83, 3) := by decide +kernel
theorem dX11_freely_66 : decode cX11_freely 66 = .ok (.getfield 207, 3) := by decide +kernel
theorem dX11_freely_69 : decode cX11_freely 69 = .ok (.iload_n 1, 1) := by decide +kernel
theorem dX11_freely_70 : decode cX11_freely 70 = .ok (.bipush 21, 2) := by decide +kernel
theorem dX11_freely_72 : decode cX11_freely 72 = .ok (.imul, 1) := by decide +kernel
theorem dX11_freely_73 : decode cX11_freely 73 = .ok (.iload 5, 2) := by decide +kernel
theorem dX11_freely_75 : decode cX11_freely 75 = .ok (.iadd, 1) := by decide +kernel
theorem dX11_freely_76 : decode cX11_freely 76 = .ok (.iaload, 1) := by decide +kernel
theorem dX11_freely_77 : decode cX11_freely 77 = .ok (.iload_n 3, 1) := by decide +kernel
theorem dX11_freely_78 : decode cX11_freely 78 = .ok (.if_icmp .lt 24, 3) := by decide +kernel
theorem dX11_freely_81 : decode cX11_freely 81 = .ok (.aload_n 0, 1) := by decide +kernel
theorem dX11_freely_82 : decode cX11_freely 82 = .ok (.getfield 23, 3) := by decide +kernel
theorem dX11_freely_85 : decode cX11_freely 85 = .ok (.aload_n 0, 1) := by decide +kernel
theorem dX11_freely_86 : decode cX11_freely 86 = .ok (.getfield 83, 3) := by decide +kernel
theorem dX11_freely_89 : decode cX11_freely 89 = .ok (.iload_n 1, 1) := by decide +kernel
theorem dX11_freely_90 : decode cX11_freely 90 = .ok (.iload 5, 2) := by decide +kernel
theorem dX11_freely_92 : decode cX11_freely 92 = .ok (.invokevirtual 213, 3) := by decide +kernel
theorem dX11_freely_95 : decode cX11_freely 95 = .ok (.iload_n 2, 1) := by decide +kernel
theorem dX11_freely_96 : decode cX11_freely 96 = .ok (.if_icmp .gt 6, 3) := by decide +kernel
theorem dX11_freely_99 : decode cX11_freely 99 = .ok (.iinc 4 1, 3) := by decide +kernel
theorem dX11_freely_102 : decode cX11_freely 102 = .ok (.iinc 5 1, 3) := by decide +kernel
theorem dX11_freely_105 : decode cX11_freely 105 = .ok (.goto (-50), 3) := by decide +kernel
theorem dX11_freely_108 : decode cX11_freely 108 = .ok (.aload_n 0, 1) := by decide +kernel
theorem dX11_freely_109 : decode cX11_freely 109 = .ok (.iload 4, 2) := by decide +kernel
theorem dX11_freely_111 : decode cX11_freely 111 = .ok (.invokevirtual 125, 3) := by decide +kernel
theorem dX11_freely_114 : decode cX11_freely 114 = .ok (.ireturn, 1) := by decide +kernel
theorem dX11_game_0 : decode cX11_game 0 = .ok (.aload_n 0, 1) := by decide +kernel
theorem dX11_game_1 : decode cX11_game 1 = .ok (.getfield 131, 3) := by decide +kernel
theorem dX11_game_4 : decode cX11_game 4 = .ok (.ifCond .eq 12, 3) := by decide +kernel
theorem dX11_game_7 : decode cX11_game 7 = .ok (.iload_n 1, 1) := by decide +kernel
theorem dX11_game_8 : decode cX11_game 8 = .ok (.ifCond .lt 8, 3) := by decide +kernel
theorem dX11_game_11 : decode cX11_game 11 = .ok (.iload_n 1, 1) := by decide +kernel
theorem dX11_game_12 : decode cX11_game 12 = .ok (.iconst 3, 1) := by decide +kernel
theorem dX11_game_13 : decode cX11_game 13 = .ok (.if_icmp .le 9, 3) := by decide +kernel
theorem dX11_game_16 : decode cX11_game 16 = .ok (.aload_n 0, 1) := by decide +kernel
theorem dX11_game_17 : decode cX11_game 17 = .ok (.iconst 1, 1) := by decide +kernel
theorem dX11_game_18 : decode cX11_game 18 = .ok (.invokevirtual 99, 3) := by decide +kernel
theorem dX11_game_21 : decode cX11_game 21 = .ok (.ireturn, 1) := by decide +kernel
theorem dX11_game_22 : decode cX11_game 22 = .ok (.aload_n 0, 1) := by decide +kernel
theorem dX11_game_23 : decode cX11_game 23 = .ok (.getfield 66, 3) := by decide +kernel
theorem dX11_game_26 : decode cX11_game 26 = .ok (.aload_n 0, 1) := by decide +kernel
theorem dX11_game_27 : decode cX11_game 27 = .ok (.getfield 83, 3) := by decide +kernel
theorem dX11_game_30 : decode cX11_game 30 = .ok (.aload_n 0, 1) := by decide +kernel
theorem dX11_game_31 : decode cX11_game 31 = .ok (.getfield 23, 3) := by decide +kernel
theorem dX11_game_34 : decode cX11_game 34 = .ok (.invokevirtual 239, 3) := by decide +kernel
theorem dX11_game_37 : decode cX11_game 37 = .ok (.ifCond .ne 10, 3) := by decide +kernel
theorem dX11_game_40 : decode cX11_game 40 = .ok (.aload_n 0, 1) := by decide +kernel
theorem dX11_game_41 : decode cX11_game 41 = .ok (.bipush 6, 2) := by decide +kernel
theorem dX11_game_43 : decode cX11_game 43 = .ok (.invokevirtual 99, 3) := by decide +kernel
theorem dX11_game_46 : decode cX11_game 46 = .ok (.ireturn, 1) := by decide +kernel
theorem dX11_game_47 : decode cX11_game 47 = .ok (.aload_n 0, 1) := by decide +kernel
theorem dX11_game_48 : decode cX11_game 48 = .ok (.aload_n 0, 1) := by decide +kernel
theorem dX11_game_49 : decode cX11_game 49 = .ok (.getfield 66, 3) := by decide +kernel
theorem dX11_game_52 : decode cX11_game 52 = .ok (.getfield 243, 3) := by decide +kernel
theorem dX11_game_55 : decode cX11_game 55 = .ok (.iload_n 1, 1) := by decide +kernel
theorem dX11_game_56 : decode cX11_game 56 = .ok (.iaload, 1) := by decide +kernel
theorem dX11_game_57 : decode cX11_game 57 = .ok (.invokevirtual 125, 3) := by decide +kernel
theorem dX11_game_60 : decode cX11_game 60 = .ok (.ireturn, 1) := by decide +kernel
theorem dX11_path_0 : decode cX11_path 0 = .ok (.aload_n 0, 1) := by decide +kernel
theorem dX11_path_1 : decode cX11_path 1 = .ok (.getfield 131, 3) := by decide +kernel
theorem dX11_path_4 : decode cX11_path 4 = .ok (.ifCond .eq 12, 3) := by decide +kernel
theorem dX11_path_7 : decode cX11_path 7 = .ok (.iload_n 2, 1) := by decide +kernel
theorem dX11_path_8 : decode cX11_path 8 = .ok (.ifCond .lt 8, 3) := by decide +kernel
theorem dX11_path_11 : decode cX11_path 11 = .ok (.iload_n 2, 1) := by decide +kernel
theorem dX11_path_12 : decode cX11_path 12 = .ok (.iconst 3, 1) := by decide +kernel
theorem dX11_path_13 : decode cX11_path 13 = .ok (.if_icmp .le 9, 3) := by decide +kernel
theorem dX11_path_16 : decode cX11_path 16 = .ok (.aload_n 0, 1) := by decide +kernel
theorem dX11_path_17 : decode cX11_path 17 = .ok (.iconst 1, 1) := by decide +kernel
theorem dX11_path_18 : decode cX11_path 18 = .ok (.invokevirtual 99, 3) := by decide +kernel
theorem dX11_path_21 : decode cX11_path 21 = .ok (.ireturn, 1) := by decide +kernel
theorem dX11_path_22 : decode cX11_path 22 = .ok (.iload_n 1, 1) := by decide +kernel
theorem dX11_path_23 : decode cX11_path 23 = .ok (.iconst 1, 1) := by decide +kernel
theorem dX11_path_24 : decode cX11_path 24 = .ok (.if_icmp .lt 9, 3) := by decide +kernel
theorem dX11_path_27 : decode cX11_path 27 = .ok (.iload_n 1, 1) := by decide +kernel
theorem dX11_path_28 : decode cX11_path 28 = .ok (.bipush 8, 2) := by decide +kernel
theorem dX11_path_30 : decode cX11_path 30 = .ok (.if_icmp .le 9, 3) := by decide +kernel
theorem dX11_path_33 : decode cX11_path 33 = .ok (.aload_n 0, 1) := by decide +kernel
theorem dX11_path_34 : decode cX11_path 34 = .ok (.iconst 2, 1) := by decide +kernel
theorem dX11_path_35 : decode cX11_path 35 = .ok (.invokevirtual 99, 3) := by decide +kernel
theorem dX11_path_38 : decode cX11_path 38 = .ok (.ireturn, 1) := by decide +kernel
theorem dX11_path_39 : decode cX11_path 39 = .ok (.aload_n 0, 1) := by decide +kernel
theorem dX11_path_40 : decode cX11_path 40 = .ok (.getfield 66, 3) := by decide +kernel
theorem dX11_path_43 : decode cX11_path 43 = .ok (.aload_n 0, 1) := by decide +kernel
theorem dX11_path_44 : decode cX11_path 44 = .ok (.getfield 83, 3) := by decide +kernel
theorem dX11_path_47 : decode cX11_path 47 = .ok (.aload_n 0, 1) := by decide +kernel
theorem dX11_path_48 : decode cX11_path 48 = .ok (.getfield 23, 3) := by decide +kernel
theorem dX11_path_51 : decode cX11_path 51 = .ok (.iload_n 1, 1) := by decide +kernel
theorem dX11_path_52 : decode cX11_path 52 = .ok (.invokevirtual 246, 3) := by decide +kernel
theorem dX11_path_55 : decode cX11_path 55 = .ok (.aload_n 0, 1) := by decide +kernel
theorem dX11_path_56 : decode cX11_path 56 = .ok (.aload_n 0, 1) := by decide +kernel
theorem dX11_path_57 : decode cX11_path 57 = .ok (.getfield 66, 3) := by decide +kernel
theorem dX11_path_60 : decode cX11_path 60 = .ok (.getfield 250, 3) := by decide +kernel
theorem dX11_path_63 : decode cX11_path 63 = .ok (.iload_n 1, 1) := by decide +kernel
theorem dX11_path_64 : decode cX11_path 64 = .ok (.iconst 4, 1) := by decide +kernel
theorem dX11_path_65 : decode cX11_path 65 = .ok (.imul, 1) := by decide +kernel
theorem dX11_path_66 : decode cX11_path 66 = .ok (.iload_n 2, 1) := by decide +kernel
theorem dX11_path_67 : decode cX11_path 67 = .ok (.iadd, 1) := by decide +kernel
theorem dX11_path_68 : decode cX11_path 68 = .ok (.iaload, 1) := by decide +kernel
theorem dX11_path_69 : decode cX11_path 69 = .ok (.invokevirtual 125, 3) := by decide +kernel
theorem dX11_path_72 : decode cX11_path 72 = .ok (.ireturn, 1) := by decide +kernel
theorem dX11_buyer_0 : decode cX11_buyer 0 = .ok (.aload_n 0, 1) := by decide +kernel
theorem dX11_buyer_1 : decode cX11_buyer 1 = .ok (.iload_n 1, 1) := by decide +kernel
theorem dX11_buyer_2 : decode cX11_buyer 2 = .ok (.invokevirtual 253, 3) := by decide +kernel
theorem dX11_buyer_5 : decode cX11_buyer 5 = .ok (.ifCond .eq 9, 3) := by decide +kernel
theorem dX11_buyer_8 : decode cX11_buyer 8 = .ok (.aload_n 0, 1) := by decide +kernel
theorem dX11_buyer_9 : decode cX11_buyer 9 = .ok (.iconst 1, 1) := by decide +kernel
theorem dX11_buyer_10 : decode cX11_buyer 10 = .ok (.invokevirtual 99, 3) := by decide +kernel
theorem dX11_buyer_13 : decode cX11_buyer 13 = .ok (.ireturn, 1) := by decide +kernel
theorem dX11_buyer_14 : decode cX11_buyer 14 = .ok (.iload_n 2, 1) := by decide +kernel
theorem dX11_buyer_15 : decode cX11_buyer 15 = .ok (.tableswitch 78 0 2 #[25, 45, 65], 25) := by decide +kernel
theorem dX11_buyer_40 : decode cX11_buyer 40 = .ok (.aload_n 0, 1) := by decide +kernel
theorem dX11_buyer_41 : decode cX11_buyer 41 = .ok (.aload_n 0, 1) := by decide +kernel
theorem dX11_buyer_42 : decode cX11_buyer 42 = .ok (.getfield 83, 3) := by decide +kernel
theorem dX11_buyer_45 : decode cX11_buyer 45 = .ok (.iload_n 1, 1) := by decide +kernel
theorem dX11_buyer_46 : decode cX11_buyer 46 = .ok (.aload_n 0, 1) := by decide +kernel
theorem dX11_buyer_47 : decode cX11_buyer 47 = .ok (.getfield 23, 3) := by decide +kernel
theorem dX11_buyer_50 : decode cX11_buyer 50 = .ok (.getfield 146, 3) := by decide +kernel
theorem dX11_buyer_53 : decode cX11_buyer 53 = .ok (.invokevirtual 256, 3) := by decide +kernel
theorem dX11_buyer_56 : decode cX11_buyer 56 = .ok (.invokevirtual 125, 3) := by decide +kernel
theorem dX11_buyer_59 : decode cX11_buyer 59 = .ok (.ireturn, 1) := by decide +kernel
theorem dX11_buyer_60 : decode cX11_buyer 60 = .ok (.aload_n 0, 1) := by decide +kernel
theorem dX11_buyer_61 : decode cX11_buyer 61 = .ok (.aload_n 0, 1) := by decide +kernel
theorem dX11_buyer_62 : decode cX11_buyer 62 = .ok (.getfield 83, 3) := by decide +kernel
theorem dX11_buyer_65 : decode cX11_buyer 65 = .ok (.iload_n 1, 1) := by decide +kernel
theorem dX11_buyer_66 : decode cX11_buyer 66 = .ok (.aload_n 0, 1) := by decide +kernel
theorem dX11_buyer_67 : decode cX11_buyer 67 = .ok (.getfield 23, 3) := by decide +kernel
theorem dX11_buyer_70 : decode cX11_buyer 70 = .ok (.getfield 173, 3) := by decide +kernel
theorem dX11_buyer_73 : decode cX11_buyer 73 = .ok (.invokevirtual 256, 3) := by decide +kernel
theorem dX11_buyer_76 : decode cX11_buyer 76 = .ok (.invokevirtual 125, 3) := by decide +kernel
theorem dX11_buyer_79 : decode cX11_buyer 79 = .ok (.ireturn, 1) := by decide +kernel
theorem dX11_buyer_80 : decode cX11_buyer 80 = .ok (.aload_n 0, 1) := by decide +kernel
theorem dX11_buyer_81 : decode cX11_buyer 81 = .ok (.aload_n 0, 1) := by decide +kernel
theorem dX11_buyer_82 : decode cX11_buyer 82 = .ok (.getfield 83, 3) := by decide +kernel
theorem dX11_buyer_85 : decode cX11_buyer 85 = .ok (.iload_n 1, 1) := by decide +kernel
theorem dX11_buyer_86 : decode cX11_buyer 86 = .ok (.invokevirtual 260, 3) := by decide +kernel
theorem dX11_buyer_89 : decode cX11_buyer 89 = .ok (.invokevirtual 125, 3) := by decide +kernel
theorem dX11_buyer_92 : decode cX11_buyer 92 = .ok (.ireturn, 1) := by decide +kernel
theorem dX11_buyer_93 : decode cX11_buyer 93 = .ok (.aload_n 0, 1) := by decide +kernel
theorem dX11_buyer_94 : decode cX11_buyer 94 = .ok (.iconst 1, 1) := by decide +kernel
theorem dX11_buyer_95 : decode cX11_buyer 95 = .ok (.invokevirtual 99, 3) := by decide +kernel
theorem dX11_buyer_98 : decode cX11_buyer 98 = .ok (.ireturn, 1) := by decide +kernel
theorem dX11_units_0 : decode cX11_units 0 = .ok (.aload_n 0, 1) := by decide +kernel
theorem dX11_units_1 : decode cX11_units 1 = .ok (.iload_n 1, 1) := by decide +kernel
theorem dX11_units_2 : decode cX11_units 2 = .ok (.invokevirtual 253, 3) := by decide +kernel
theorem dX11_units_5 : decode cX11_units 5 = .ok (.ifCond .ne 11, 3) := by decide +kernel
theorem dX11_units_8 : decode cX11_units 8 = .ok (.aload_n 0, 1) := by decide +kernel
theorem dX11_units_9 : decode cX11_units 9 = .ok (.iload_n 2, 1) := by decide +kernel
theorem dX11_units_10 : decode cX11_units 10 = .ok (.invokevirtual 176, 3) := by decide +kernel
theorem dX11_units_13 : decode cX11_units 13 = .ok (.ifCond .eq 9, 3) := by decide +kernel
theorem dX11_units_16 : decode cX11_units 16 = .ok (.aload_n 0, 1) := by decide +kernel
theorem dX11_units_17 : decode cX11_units 17 = .ok (.iconst 1, 1) := by decide +kernel
theorem dX11_units_18 : decode cX11_units 18 = .ok (.invokevirtual 99, 3) := by decide +kernel
theorem dX11_units_21 : decode cX11_units 21 = .ok (.ireturn, 1) := by decide +kernel
theorem dX11_units_22 : decode cX11_units 22 = .ok (.aload_n 0, 1) := by decide +kernel
theorem dX11_units_23 : decode cX11_units 23 = .ok (.aload_n 0, 1) := by decide +kernel
theorem dX11_units_24 : decode cX11_units 24 = .ok (.getfield 83, 3) := by decide +kernel
theorem dX11_units_27 : decode cX11_units 27 = .ok (.getfield 263, 3) := by decide +kernel
theorem dX11_units_30 : decode cX11_units 30 = .ok (.iload_n 1, 1) := by decide +kernel
theorem dX11_units_31 : decode cX11_units 31 = .ok (.iconst 4, 1) := by decide +kernel
theorem dX11_units_32 : decode cX11_units 32 = .ok (.imul, 1) := by decide +kernel
theorem dX11_units_33 : decode cX11_units 33 = .ok (.iload_n 2, 1) := by decide +kernel
theorem dX11_units_34 : decode cX11_units 34 = .ok (.iadd, 1) := by decide +kernel
theorem dX11_units_35 : decode cX11_units 35 = .ok (.iaload, 1) := by decide +kernel
theorem dX11_units_36 : decode cX11_units 36 = .ok (.invokevirtual 125, 3) := by decide +kernel
theorem dX11_units_39 : decode cX11_units 39 = .ok (.ireturn, 1) := by decide +kernel
theorem dX11_hurt_0 : decode cX11_hurt 0 = .ok (.aload_n 0, 1) := by decide +kernel
theorem dX11_hurt_1 : decode cX11_hurt 1 = .ok (.getfield 131, 3) := by decide +kernel
theorem dX11_hurt_4 : decode cX11_hurt 4 = .ok (.ifCond .ne 9, 3) := by decide +kernel
theorem dX11_hurt_7 : decode cX11_hurt 7 = .ok (.aload_n 0, 1) := by decide +kernel
theorem dX11_hurt_8 : decode cX11_hurt 8 = .ok (.iconst 1, 1) := by decide +kernel
theorem dX11_hurt_9 : decode cX11_hurt 9 = .ok (.invokevirtual 99, 3) := by decide +kernel
theorem dX11_hurt_12 : decode cX11_hurt 12 = .ok (.ireturn, 1) := by decide +kernel
theorem dX11_hurt_13 : decode cX11_hurt 13 = .ok (.iconst 0, 1) := by decide +kernel
theorem dX11_hurt_14 : decode cX11_hurt 14 = .ok (.istore_n 1, 1) := by decide +kernel
theorem dX11_hurt_15 : decode cX11_hurt 15 = .ok (.iconst 0, 1) := by decide +kernel
theorem dX11_hurt_16 : decode cX11_hurt 16 = .ok (.istore_n 2, 1) := by decide +kernel
theorem dX11_hurt_17 : decode cX11_hurt 17 = .ok (.iload_n 2, 1) := by decide +kernel
theorem dX11_hurt_18 : decode cX11_hurt 18 = .ok (.aload_n 0, 1) := by decide +kernel
theorem dX11_hurt_19 : decode cX11_hurt 19 = .ok (.getfield 83, 3) := by decide +kernel
theorem dX11_hurt_22 : decode cX11_hurt 22 = .ok (.getfield 266, 3) := by decide +kernel
theorem dX11_hurt_25 : decode cX11_hurt 25 = .ok (.if_icmp .ge 23, 3) := by decide +kernel
theorem dX11_hurt_28 : decode cX11_hurt 28 = .ok (.aload_n 0, 1) := by decide +kernel
theorem dX11_hurt_29 : decode cX11_hurt 29 = .ok (.iload_n 2, 1) := by decide +kernel
theorem dX11_hurt_30 : decode cX11_hurt 30 = .ok (.invokevirtual 269, 3) := by decide +kernel
theorem dX11_hurt_33 : decode cX11_hurt 33 = .ok (.ifCond .le 9, 3) := by decide +kernel
theorem dX11_hurt_36 : decode cX11_hurt 36 = .ok (.iload_n 1, 1) := by decide +kernel
theorem dX11_hurt_37 : decode cX11_hurt 37 = .ok (.iconst 1, 1) := by decide +kernel
theorem dX11_hurt_38 : decode cX11_hurt 38 = .ok (.iload_n 2, 1) := by decide +kernel
theorem dX11_hurt_39 : decode cX11_hurt 39 = .ok (.ishl, 1) := by decide +kernel
theorem dX11_hurt_40 : decode cX11_hurt 40 = .ok (.ior, 1) := by decide +kernel
theorem dX11_hurt_41 : decode cX11_hurt 41 = .ok (.istore_n 1, 1) := by decide +kernel
theorem dX11_hurt_42 : decode cX11_hurt 42 = .ok (.iinc 2 1, 3) := by decide +kernel
theorem dX11_hurt_45 : decode cX11_hurt 45 = .ok (.goto (-28), 3) := by decide +kernel
theorem dX11_hurt_48 : decode cX11_hurt 48 = .ok (.aload_n 0, 1) := by decide +kernel
theorem dX11_hurt_49 : decode cX11_hurt 49 = .ok (.iload_n 1, 1) := by decide +kernel
theorem dX11_hurt_50 : decode cX11_hurt 50 = .ok (.invokevirtual 125, 3) := by decide +kernel
theorem dX11_hurt_53 : decode cX11_hurt 53 = .ok (.ireturn, 1) := by decide +kernel
theorem dX11_hardest_0 : decode cX11_hardest 0 = .ok (.aload_n 0, 1) := by decide +kernel
theorem dX11_hardest_1 : decode cX11_hardest 1 = .ok (.getfield 131, 3) := by decide +kernel
theorem dX11_hardest_4 : decode cX11_hardest 4 = .ok (.ifCond .ne 9, 3) := by decide +kernel
theorem dX11_hardest_7 : decode cX11_hardest 7 = .ok (.aload_n 0, 1) := by decide +kernel
theorem dX11_hardest_8 : decode cX11_hardest 8 = .ok (.iconst 1, 1) := by decide +kernel
theorem dX11_hardest_9 : decode cX11_hardest 9 = .ok (.invokevirtual 99, 3) := by decide +kernel
theorem dX11_hardest_12 : decode cX11_hardest 12 = .ok (.ireturn, 1) := by decide +kernel
theorem dX11_hardest_13 : decode cX11_hardest 13 = .ok (.bipush (-2), 2) := by decide +kernel
theorem dX11_hardest_15 : decode cX11_hardest 15 = .ok (.istore_n 1, 1) := by decide +kernel
theorem dX11_hardest_16 : decode cX11_hardest 16 = .ok (.iconst 0, 1) := by decide +kernel
theorem dX11_hardest_17 : decode cX11_hardest 17 = .ok (.istore_n 2, 1) := by decide +kernel
theorem dX11_hardest_18 : decode cX11_hardest 18 = .ok (.iconst 0, 1) := by decide +kernel
theorem dX11_hardest_19 : decode cX11_hardest 19 = .ok (.istore_n 3, 1) := by decide +kernel
theorem dX11_hardest_20 : decode cX11_hardest 20 = .ok (.iload_n 3, 1) := by decide +kernel
theorem dX11_hardest_21 : decode cX11_hardest 21 = .ok (.aload_n 0, 1) := by decide +kernel
theorem dX11_hardest_22 : decode cX11_hardest 22 = .ok (.getfield 83, 3) := by decide +kernel
theorem dX11_hardest_25 : decode cX11_hardest 25 = .ok (.getfield 266, 3) := by decide +kernel
theorem dX11_hardest_28 : decode cX11_hardest 28 = .ok (.if_icmp .ge 31, 3) := by decide +kernel
theorem dX11_hardest_31 : decode cX11_hardest 31 = .ok (.aload_n 0, 1) := by decide +kernel
theorem dX11_hardest_32 : decode cX11_hardest 32 = .ok (.iload_n 3, 1) := by decide +kernel
theorem dX11_hardest_33 : decode cX11_hardest 33 = .ok (.invokevirtual 269, 3) := by decide +kernel
theorem dX11_hardest_36 : decode cX11_hardest 36 = .ok (.istore 4, 2) := by decide +kernel
theorem dX11_hardest_38 : decode cX11_hardest 38 = .ok (.iload_n 1, 1) := by decide +kernel
theorem dX11_hardest_39 : decode cX11_hardest 39 = .ok (.ifCond .lt 9, 3) := by decide +kernel
theorem dX11_hardest_42 : decode cX11_hardest 42 = .ok (.iload 4, 2) := by decide +kernel
theorem dX11_hardest_44 : decode cX11_hardest 44 = .ok (.iload_n 2, 1) := by decide +kernel
theorem dX11_hardest_45 : decode cX11_hardest 45 = .ok (.if_icmp .le 8, 3) := by decide +kernel
theorem dX11_hardest_48 : decode cX11_hardest 48 = .ok (.iload_n 3, 1) := by decide +kernel
theorem dX11_hardest_49 : decode cX11_hardest 49 = .ok (.istore_n 1, 1) := by decide +kernel
theorem dX11_hardest_50 : decode cX11_hardest 50 = .ok (.iload 4, 2) := by decide +kernel
theorem dX11_hardest_52 : decode cX11_hardest 52 = .ok (.istore_n 2, 1) := by decide +kernel
theorem dX11_hardest_53 : decode cX11_hardest 53 = .ok (.iinc 3 1, 3) := by decide +kernel
theorem dX11_hardest_56 : decode cX11_hardest 56 = .ok (.goto (-36), 3) := by decide +kernel
theorem dX11_hardest_59 : decode cX11_hardest 59 = .ok (.aload_n 0, 1) := by decide +kernel
theorem dX11_hardest_60 : decode cX11_hardest 60 = .ok (.iload_n 1, 1) := by decide +kernel
theorem dX11_hardest_61 : decode cX11_hardest 61 = .ok (.invokevirtual 125, 3) := by decide +kernel
theorem dX11_hardest_64 : decode cX11_hardest 64 = .ok (.ireturn, 1) := by decide +kernel
theorem dX11_gentle_0 : decode cX11_gentle 0 = .ok (.aload_n 0, 1) := by decide +kernel
theorem dX11_gentle_1 : decode cX11_gentle 1 = .ok (.aload_n 0, 1) := by decide +kernel
theorem dX11_gentle_2 : decode cX11_gentle 2 = .ok (.getfield 131, 3) := by decide +kernel
theorem dX11_gentle_5 : decode cX11_gentle 5 = .ok (.ifCond .eq 21, 3) := by decide +kernel
theorem dX11_gentle_8 : decode cX11_gentle 8 = .ok (.aload_n 0, 1) := by decide +kernel
theorem dX11_gentle_9 : decode cX11_gentle 9 = .ok (.getfield 59, 3) := by decide +kernel
theorem dX11_gentle_12 : decode cX11_gentle 12 = .ok (.aload_n 0, 1) := by decide +kernel
theorem dX11_gentle_13 : decode cX11_gentle 13 = .ok (.getfield 83, 3) := by decide +kernel
theorem dX11_gentle_16 : decode cX11_gentle 16 = .ok (.aload_n 0, 1) := by decide +kernel
theorem dX11_gentle_17 : decode cX11_gentle 17 = .ok (.getfield 23, 3) := by decide +kernel
theorem dX11_gentle_20 : decode cX11_gentle 20 = .ok (.invokevirtual 272, 3) := by decide +kernel
theorem dX11_gentle_23 : decode cX11_gentle 23 = .ok (.goto 4, 3) := by decide +kernel
theorem dX11_gentle_26 : decode cX11_gentle 26 = .ok (.aconst_null, 1) := by decide +kernel
theorem dX11_gentle_27 : decode cX11_gentle 27 = .ok (.invokevirtual 224, 3) := by decide +kernel
theorem dX11_gentle_30 : decode cX11_gentle 30 = .ok (.ireturn, 1) := by decide +kernel
theorem dX11_gentleOf_0 : decode cX11_gentleOf 0 = .ok (.aload_n 0, 1) := by decide +kernel
theorem dX11_gentleOf_1 : decode cX11_gentleOf 1 = .ok (.aload_n 0, 1) := by decide +kernel
theorem dX11_gentleOf_2 : decode cX11_gentleOf 2 = .ok (.iload_n 1, 1) := by decide +kernel
theorem dX11_gentleOf_3 : decode cX11_gentleOf 3 = .ok (.invokevirtual 176, 3) := by decide +kernel
theorem dX11_gentleOf_6 : decode cX11_gentleOf 6 = .ok (.ifCond .eq 7, 3) := by decide +kernel
theorem dX11_gentleOf_9 : decode cX11_gentleOf 9 = .ok (.aconst_null, 1) := by decide +kernel
theorem dX11_gentleOf_10 : decode cX11_gentleOf 10 = .ok (.goto 18, 3) := by decide +kernel
theorem dX11_gentleOf_13 : decode cX11_gentleOf 13 = .ok (.aload_n 0, 1) := by decide +kernel
theorem dX11_gentleOf_14 : decode cX11_gentleOf 14 = .ok (.getfield 59, 3) := by decide +kernel
theorem dX11_gentleOf_17 : decode cX11_gentleOf 17 = .ok (.aload_n 0, 1) := by decide +kernel
theorem dX11_gentleOf_18 : decode cX11_gentleOf 18 = .ok (.getfield 83, 3) := by decide +kernel
theorem dX11_gentleOf_21 : decode cX11_gentleOf 21 = .ok (.aload_n 0, 1) := by decide +kernel
theorem dX11_gentleOf_22 : decode cX11_gentleOf 22 = .ok (.getfield 23, 3) := by decide +kernel
theorem dX11_gentleOf_25 : decode cX11_gentleOf 25 = .ok (.invokevirtual 272, 3) := by decide +kernel
theorem dX11_gentleOf_28 : decode cX11_gentleOf 28 = .ok (.iload_n 1, 1) := by decide +kernel
theorem dX11_gentleOf_29 : decode cX11_gentleOf 29 = .ok (.invokevirtual 228, 3) := by decide +kernel
theorem dX11_gentleOf_32 : decode cX11_gentleOf 32 = .ok (.ireturn, 1) := by decide +kernel
theorem dX11_steady_0 : decode cX11_steady 0 = .ok (.aload_n 0, 1) := by decide +kernel
theorem dX11_steady_1 : decode cX11_steady 1 = .ok (.getfield 131, 3) := by decide +kernel
theorem dX11_steady_4 : decode cX11_steady 4 = .ok (.ifCond .ne 9, 3) := by decide +kernel
theorem dX11_steady_7 : decode cX11_steady 7 = .ok (.aload_n 0, 1) := by decide +kernel
theorem dX11_steady_8 : decode cX11_steady 8 = .ok (.iconst 1, 1) := by decide +kernel
theorem dX11_steady_9 : decode cX11_steady 9 = .ok (.invokevirtual 99, 3) := by decide +kernel
theorem dX11_steady_12 : decode cX11_steady 12 = .ok (.ireturn, 1) := by decide +kernel
theorem dX11_steady_13 : decode cX11_steady 13 = .ok (.iload_n 1, 1) := by decide +kernel
theorem dX11_steady_14 : decode cX11_steady 14 = .ok (.invokestatic 275, 3) := by decide +kernel
theorem dX11_steady_17 : decode cX11_steady 17 = .ok (.ifCond .eq 9, 3) := by decide +kernel
theorem dX11_steady_20 : decode cX11_steady 20 = .ok (.aload_n 0, 1) := by decide +kernel
theorem dX11_steady_21 : decode cX11_steady 21 = .ok (.iconst 2, 1) := by decide +kernel
theorem dX11_steady_22 : decode cX11_steady 22 = .ok (.invokevirtual 99, 3) := by decide +kernel
theorem dX11_steady_25 : decode cX11_steady 25 = .ok (.ireturn, 1) := by decide +kernel
theorem dX11_steady_26 : decode cX11_steady 26 = .ok (.aload_n 0, 1) := by decide +kernel
theorem dX11_steady_27 : decode cX11_steady 27 = .ok (.getfield 59, 3) := by decide +kernel
theorem dX11_steady_30 : decode cX11_steady 30 = .ok (.aload_n 0, 1) := by decide +kernel
theorem dX11_steady_31 : decode cX11_steady 31 = .ok (.getfield 83, 3) := by decide +kernel
theorem dX11_steady_34 : decode cX11_steady 34 = .ok (.aload_n 0, 1) := by decide +kernel
theorem dX11_steady_35 : decode cX11_steady 35 = .ok (.getfield 23, 3) := by decide +kernel
theorem dX11_steady_38 : decode cX11_steady 38 = .ok (.iload_n 1, 1) := by decide +kernel
theorem dX11_steady_39 : decode cX11_steady 39 = .ok (.invokevirtual 278, 3) := by decide +kernel
theorem dX11_steady_42 : decode cX11_steady 42 = .ok (.astore_n 2, 1) := by decide +kernel
theorem dX11_steady_43 : decode cX11_steady 43 = .ok (.aload_n 2, 1) := by decide +kernel
theorem dX11_steady_44 : decode cX11_steady 44 = .ok (.getfield 282, 3) := by decide +kernel
theorem dX11_steady_47 : decode cX11_steady 47 = .ok (.ifCond .eq 14, 3) := by decide +kernel
theorem dX11_steady_50 : decode cX11_steady 50 = .ok (.aload_n 0, 1) := by decide +kernel
theorem dX11_steady_51 : decode cX11_steady 51 = .ok (.aload_n 2, 1) := by decide +kernel
theorem dX11_steady_52 : decode cX11_steady 52 = .ok (.getfield 287, 3) := by decide +kernel
theorem dX11_steady_55 : decode cX11_steady 55 = .ok (.invokevirtual 125, 3) := by decide +kernel
theorem dX11_steady_58 : decode cX11_steady 58 = .ok (.goto 9, 3) := by decide +kernel
theorem dX11_steady_61 : decode cX11_steady 61 = .ok (.aload_n 0, 1) := by decide +kernel
theorem dX11_steady_62 : decode cX11_steady 62 = .ok (.bipush 6, 2) := by decide +kernel
theorem dX11_steady_64 : decode cX11_steady 64 = .ok (.invokevirtual 99, 3) := by decide +kernel
theorem dX11_steady_67 : decode cX11_steady 67 = .ok (.ireturn, 1) := by decide +kernel
theorem dX11_steadyOf_0 : decode cX11_steadyOf 0 = .ok (.aload_n 0, 1) := by decide +kernel
theorem dX11_steadyOf_1 : decode cX11_steadyOf 1 = .ok (.iload_n 2, 1) := by decide +kernel
theorem dX11_steadyOf_2 : decode cX11_steadyOf 2 = .ok (.invokevirtual 176, 3) := by decide +kernel
theorem dX11_steadyOf_5 : decode cX11_steadyOf 5 = .ok (.ifCond .eq 9, 3) := by decide +kernel
theorem dX11_steadyOf_8 : decode cX11_steadyOf 8 = .ok (.aload_n 0, 1) := by decide +kernel
theorem dX11_steadyOf_9 : decode cX11_steadyOf 9 = .ok (.iconst 1, 1) := by decide +kernel
theorem dX11_steadyOf_10 : decode cX11_steadyOf 10 = .ok (.invokevirtual 99, 3) := by decide +kernel
theorem dX11_steadyOf_13 : decode cX11_steadyOf 13 = .ok (.ireturn, 1) := by decide +kernel
theorem dX11_steadyOf_14 : decode cX11_steadyOf 14 = .ok (.iload_n 1, 1) := by decide +kernel
theorem dX11_steadyOf_15 : decode cX11_steadyOf 15 = .ok (.invokestatic 275, 3) := by decide +kernel
theorem dX11_steadyOf_18 : decode cX11_steadyOf 18 = .ok (.ifCond .eq 9, 3) := by decide +kernel
theorem dX11_steadyOf_21 : decode cX11_steadyOf 21 = .ok (.aload_n 0, 1) := by decide +kernel
theorem dX11_steadyOf_22 : decode cX11_steadyOf 22 = .ok (.iconst 2, 1) := by decide +kernel
theorem dX11_steadyOf_23 : decode cX11_steadyOf 23 = .ok (.invokevirtual 99, 3) := by decide +kernel
theorem dX11_steadyOf_26 : decode cX11_steadyOf 26 = .ok (.ireturn, 1) := by decide +kernel
theorem dX11_steadyOf_27 : decode cX11_steadyOf 27 = .ok (.aload_n 0, 1) := by decide +kernel
theorem dX11_steadyOf_28 : decode cX11_steadyOf 28 = .ok (.getfield 59, 3) := by decide +kernel
theorem dX11_steadyOf_31 : decode cX11_steadyOf 31 = .ok (.aload_n 0, 1) := by decide +kernel
theorem dX11_steadyOf_32 : decode cX11_steadyOf 32 = .ok (.getfield 83, 3) := by decide +kernel
theorem dX11_steadyOf_35 : decode cX11_steadyOf 35 = .ok (.aload_n 0, 1) := by decide +kernel
theorem dX11_steadyOf_36 : decode cX11_steadyOf 36 = .ok (.getfield 23, 3) := by decide +kernel
theorem dX11_steadyOf_39 : decode cX11_steadyOf 39 = .ok (.iload_n 1, 1) := by decide +kernel
theorem dX11_steadyOf_40 : decode cX11_steadyOf 40 = .ok (.invokevirtual 278, 3) := by decide +kernel
theorem dX11_steadyOf_43 : decode cX11_steadyOf 43 = .ok (.astore_n 3, 1) := by decide +kernel
theorem dX11_steadyOf_44 : decode cX11_steadyOf 44 = .ok (.aload_n 3, 1) := by decide +kernel
theorem dX11_steadyOf_45 : decode cX11_steadyOf 45 = .ok (.getfield 282, 3) := by decide +kernel
theorem dX11_steadyOf_48 : decode cX11_steadyOf 48 = .ok (.ifCond .eq 16, 3) := by decide +kernel
theorem dX11_steadyOf_51 : decode cX11_steadyOf 51 = .ok (.aload_n 0, 1) := by decide +kernel
theorem dX11_steadyOf_52 : decode cX11_steadyOf 52 = .ok (.aload_n 3, 1) := by decide +kernel
theorem dX11_steadyOf_53 : decode cX11_steadyOf 53 = .ok (.getfield 290, 3) := by decide +kernel
theorem dX11_steadyOf_56 : decode cX11_steadyOf 56 = .ok (.iload_n 2, 1) := by decide +kernel
theorem dX11_steadyOf_57 : decode cX11_steadyOf 57 = .ok (.iaload, 1) := by decide +kernel
theorem dX11_steadyOf_58 : decode cX11_steadyOf 58 = .ok (.invokevirtual 125, 3) := by decide +kernel
theorem dX11_steadyOf_61 : decode cX11_steadyOf 61 = .ok (.goto 9, 3) := by decide +kernel
theorem dX11_steadyOf_64 : decode cX11_steadyOf 64 = .ok (.aload_n 0, 1) := by decide +kernel
theorem dX11_steadyOf_65 : decode cX11_steadyOf 65 = .ok (.bipush 6, 2) := by decide +kernel
theorem dX11_steadyOf_67 : decode cX11_steadyOf 67 = .ok (.invokevirtual 99, 3) := by decide +kernel
theorem dX11_steadyOf_70 : decode cX11_steadyOf 70 = .ok (.ireturn, 1) := by decide +kernel
theorem dX11_level_0 : decode cX11_level 0 = .ok (.aload_n 0, 1) := by decide +kernel
theorem dX11_level_1 : decode cX11_level 1 = .ok (.getfield 131, 3) := by decide +kernel
theorem dX11_level_4 : decode cX11_level 4 = .ok (.ifCond .eq 21, 3) := by decide +kernel
theorem dX11_level_7 : decode cX11_level 7 = .ok (.iload_n 1, 1) := by decide +kernel
theorem dX11_level_8 : decode cX11_level 8 = .ok (.ifCond .lt 17, 3) := by decide +kernel
theorem dX11_level_11 : decode cX11_level 11 = .ok (.iload_n 1, 1) := by decide +kernel
theorem dX11_level_12 : decode cX11_level 12 = .ok (.iconst 1, 1) := by decide +kernel
theorem dX11_level_13 : decode cX11_level 13 = .ok (.if_icmp .gt 12, 3) := by decide +kernel
theorem dX11_level_16 : decode cX11_level 16 = .ok (.iload_n 2, 1) := by decide +kernel
theorem dX11_level_17 : decode cX11_level 17 = .ok (.ifCond .lt 8, 3) := by decide +kernel
theorem dX11_level_20 : decode cX11_level 20 = .ok (.iload_n 2, 1) := by decide +kernel
theorem dX11_level_21 : decode cX11_level 21 = .ok (.iconst 1, 1) := by decide +kernel
theorem dX11_level_22 : decode cX11_level 22 = .ok (.if_icmp .le 9, 3) := by decide +kernel
theorem dX11_level_25 : decode cX11_level 25 = .ok (.aload_n 0, 1) := by decide +kernel
theorem dX11_level_26 : decode cX11_level 26 = .ok (.iconst 1, 1) := by decide +kernel
theorem dX11_level_27 : decode cX11_level 27 = .ok (.invokevirtual 99, 3) := by decide +kernel
theorem dX11_level_30 : decode cX11_level 30 = .ok (.ireturn, 1) := by decide +kernel
theorem dX11_level_31 : decode cX11_level 31 = .ok (.iload_n 1, 1) := by decide +kernel
theorem dX11_level_32 : decode cX11_level 32 = .ok (.ifCond .ne 13, 3) := by decide +kernel
theorem dX11_level_35 : decode cX11_level 35 = .ok (.aload_n 0, 1) := by decide +kernel
theorem dX11_level_36 : decode cX11_level 36 = .ok (.getfield 23, 3) := by decide +kernel
theorem dX11_level_39 : decode cX11_level 39 = .ok (.getfield 146, 3) := by decide +kernel
theorem dX11_level_42 : decode cX11_level 42 = .ok (.goto 10, 3) := by decide +kernel
theorem dX11_level_45 : decode cX11_level 45 = .ok (.aload_n 0, 1) := by decide +kernel
theorem dX11_level_46 : decode cX11_level 46 = .ok (.getfield 23, 3) := by decide +kernel
theorem dX11_level_49 : decode cX11_level 49 = .ok (.getfield 173, 3) := by decide +kernel
theorem dX11_level_52 : decode cX11_level 52 = .ok (.astore_n 3, 1) := by decide +kernel
theorem dX11_level_53 : decode cX11_level 53 = .ok (.aload_n 0, 1) := by decide +kernel
theorem dX11_level_54 : decode cX11_level 54 = .ok (.aload_n 0, 1) := by decide +kernel
theorem dX11_level_55 : decode cX11_level 55 = .ok (.getfield 83, 3) := by decide +kernel
theorem dX11_level_58 : decode cX11_level 58 = .ok (.aload_n 0, 1) := by decide +kernel
theorem dX11_level_59 : decode cX11_level 59 = .ok (.getfield 23, 3) := by decide +kernel
theorem dX11_level_62 : decode cX11_level 62 = .ok (.getfield 173, 3) := by decide +kernel
theorem dX11_level_65 : decode cX11_level 65 = .ok (.aload_n 3, 1) := by decide +kernel
theorem dX11_level_66 : decode cX11_level 66 = .ok (.invokevirtual 149, 3) := by decide +kernel
theorem dX11_level_69 : decode cX11_level 69 = .ok (.aload_n 0, 1) := by decide +kernel
theorem dX11_level_70 : decode cX11_level 70 = .ok (.getfield 83, 3) := by decide +kernel
theorem dX11_level_73 : decode cX11_level 73 = .ok (.aload_n 0, 1) := by decide +kernel
theorem dX11_level_74 : decode cX11_level 74 = .ok (.getfield 23, 3) := by decide +kernel
theorem dX11_level_77 : decode cX11_level 77 = .ok (.getfield 146, 3) := by decide +kernel
theorem dX11_level_80 : decode cX11_level 80 = .ok (.aload_n 3, 1) := by decide +kernel
theorem dX11_level_81 : decode cX11_level 81 = .ok (.invokevirtual 149, 3) := by decide +kernel
theorem dX11_level_84 : decode cX11_level 84 = .ok (.iload_n 2, 1) := by decide +kernel
theorem dX11_level_85 : decode cX11_level 85 = .ok (.invokevirtual 291, 3) := by decide +kernel
theorem dX11_level_88 : decode cX11_level 88 = .ok (.ireturn, 1) := by decide +kernel
theorem dX11_trade_0 : decode cX11_trade 0 = .ok (.aload_n 0, 1) := by decide +kernel
theorem dX11_trade_1 : decode cX11_trade 1 = .ok (.getfield 131, 3) := by decide +kernel
theorem dX11_trade_4 : decode cX11_trade 4 = .ok (.ifCond .eq 12, 3) := by decide +kernel
theorem dX11_trade_7 : decode cX11_trade 7 = .ok (.iload_n 1, 1) := by decide +kernel
theorem dX11_trade_8 : decode cX11_trade 8 = .ok (.ifCond .lt 8, 3) := by decide +kernel
theorem dX11_trade_11 : decode cX11_trade 11 = .ok (.iload_n 1, 1) := by decide +kernel
theorem dX11_trade_12 : decode cX11_trade 12 = .ok (.iconst 3, 1) := by decide +kernel
theorem dX11_trade_13 : decode cX11_trade 13 = .ok (.if_icmp .le 9, 3) := by decide +kernel
theorem dX11_trade_16 : decode cX11_trade 16 = .ok (.aload_n 0, 1) := by decide +kernel
theorem dX11_trade_17 : decode cX11_trade 17 = .ok (.iconst 1, 1) := by decide +kernel
theorem dX11_trade_18 : decode cX11_trade 18 = .ok (.invokevirtual 99, 3) := by decide +kernel
theorem dX11_trade_21 : decode cX11_trade 21 = .ok (.ireturn, 1) := by decide +kernel
theorem dX11_trade_22 : decode cX11_trade 22 = .ok (.aload_n 0, 1) := by decide +kernel
theorem dX11_trade_23 : decode cX11_trade 23 = .ok (.getfield 73, 3) := by decide +kernel
theorem dX11_trade_26 : decode cX11_trade 26 = .ok (.aload_n 0, 1) := by decide +kernel
theorem dX11_trade_27 : decode cX11_trade 27 = .ok (.getfield 83, 3) := by decide +kernel
theorem dX11_trade_30 : decode cX11_trade 30 = .ok (.aload_n 0, 1) := by decide +kernel
theorem dX11_trade_31 : decode cX11_trade 31 = .ok (.getfield 23, 3) := by decide +kernel
theorem dX11_trade_34 : decode cX11_trade 34 = .ok (.invokevirtual 295, 3) := by decide +kernel
theorem dX11_trade_37 : decode cX11_trade 37 = .ok (.ifCond .ne 10, 3) := by decide +kernel
theorem dX11_trade_40 : decode cX11_trade 40 = .ok (.aload_n 0, 1) := by decide +kernel
theorem dX11_trade_41 : decode cX11_trade 41 = .ok (.bipush 6, 2) := by decide +kernel
theorem dX11_trade_43 : decode cX11_trade 43 = .ok (.invokevirtual 99, 3) := by decide +kernel
theorem dX11_trade_46 : decode cX11_trade 46 = .ok (.ireturn, 1) := by decide +kernel
theorem dX11_trade_47 : decode cX11_trade 47 = .ok (.aload_n 0, 1) := by decide +kernel
theorem dX11_trade_48 : decode cX11_trade 48 = .ok (.aload_n 0, 1) := by decide +kernel
theorem dX11_trade_49 : decode cX11_trade 49 = .ok (.getfield 73, 3) := by decide +kernel
theorem dX11_trade_52 : decode cX11_trade 52 = .ok (.getfield 298, 3) := by decide +kernel
theorem dX11_trade_55 : decode cX11_trade 55 = .ok (.iload_n 1, 1) := by decide +kernel
theorem dX11_trade_56 : decode cX11_trade 56 = .ok (.iaload, 1) := by decide +kernel
theorem dX11_trade_57 : decode cX11_trade 57 = .ok (.invokevirtual 125, 3) := by decide +kernel
theorem dX11_trade_60 : decode cX11_trade 60 = .ok (.ireturn, 1) := by decide +kernel
theorem dX11_reach_0 : decode cX11_reach 0 = .ok (.aload_n 0, 1) := by decide +kernel
theorem dX11_reach_1 : decode cX11_reach 1 = .ok (.getfield 131, 3) := by decide +kernel
theorem dX11_reach_4 : decode cX11_reach 4 = .ok (.ifCond .ne 9, 3) := by decide +kernel
theorem dX11_reach_7 : decode cX11_reach 7 = .ok (.aload_n 0, 1) := by decide +kernel
theorem dX11_reach_8 : decode cX11_reach 8 = .ok (.iconst 1, 1) := by decide +kernel
theorem dX11_reach_9 : decode cX11_reach 9 = .ok (.invokevirtual 99, 3) := by decide +kernel
theorem dX11_reach_12 : decode cX11_reach 12 = .ok (.ireturn, 1) := by decide +kernel
theorem dX11_reach_13 : decode cX11_reach 13 = .ok (.iload_n 1, 1) := by decide +kernel
theorem dX11_reach_14 : decode cX11_reach 14 = .ok (.ifCond .lt 9, 3) := by decide +kernel
theorem dX11_reach_17 : decode cX11_reach 17 = .ok (.iload_n 1, 1) := by decide +kernel
theorem dX11_reach_18 : decode cX11_reach 18 = .ok (.bipush 80, 2) := by decide +kernel
theorem dX11_reach_20 : decode cX11_reach 20 = .ok (.if_icmp .le 9, 3) := by decide +kernel
theorem dX11_reach_23 : decode cX11_reach 23 = .ok (.aload_n 0, 1) := by decide +kernel
theorem dX11_reach_24 : decode cX11_reach 24 = .ok (.iconst 2, 1) := by decide +kernel
theorem dX11_reach_25 : decode cX11_reach 25 = .ok (.invokevirtual 99, 3) := by decide +kernel
theorem dX11_reach_28 : decode cX11_reach 28 = .ok (.ireturn, 1) := by decide +kernel
theorem dX11_reach_29 : decode cX11_reach 29 = .ok (.iconst 0, 1) := by decide +kernel
theorem dX11_reach_30 : decode cX11_reach 30 = .ok (.istore_n 2, 1) := by decide +kernel
theorem dX11_reach_31 : decode cX11_reach 31 = .ok (.iload_n 2, 1) := by decide +kernel
theorem dX11_reach_32 : decode cX11_reach 32 = .ok (.bipush 8, 2) := by decide +kernel
theorem dX11_reach_34 : decode cX11_reach 34 = .ok (.if_icmp .gt 48, 3) := by decide +kernel
theorem dX11_reach_37 : decode cX11_reach 37 = .ok (.aload_n 0, 1) := by decide +kernel
theorem dX11_reach_38 : decode cX11_reach 38 = .ok (.getfield 66, 3) := by decide +kernel
theorem dX11_reach_41 : decode cX11_reach 41 = .ok (.aload_n 0, 1) := by decide +kernel
theorem dX11_reach_42 : decode cX11_reach 42 = .ok (.getfield 83, 3) := by decide +kernel
theorem dX11_reach_45 : decode cX11_reach 45 = .ok (.aload_n 0, 1) := by decide +kernel
theorem dX11_reach_46 : decode cX11_reach 46 = .ok (.getfield 23, 3) := by decide +kernel
theorem dX11_reach_49 : decode cX11_reach 49 = .ok (.iload_n 2, 1) := by decide +kernel
theorem dX11_reach_50 : decode cX11_reach 50 = .ok (.invokevirtual 246, 3) := by decide +kernel
theorem dX11_reach_53 : decode cX11_reach 53 = .ok (.aload_n 0, 1) := by decide +kernel
theorem dX11_reach_54 : decode cX11_reach 54 = .ok (.getfield 66, 3) := by decide +kernel
theorem dX11_reach_57 : decode cX11_reach 57 = .ok (.getfield 250, 3) := by decide +kernel
theorem dX11_reach_60 : decode cX11_reach 60 = .ok (.iload_n 2, 1) := by decide +kernel
theorem dX11_reach_61 : decode cX11_reach 61 = .ok (.iconst 4, 1) := by decide +kernel
theorem dX11_reach_62 : decode cX11_reach 62 = .ok (.imul, 1) := by decide +kernel
theorem dX11_reach_63 : decode cX11_reach 63 = .ok (.iconst 2, 1) := by decide +kernel
theorem dX11_reach_64 : decode cX11_reach 64 = .ok (.iadd, 1) := by decide +kernel
theorem dX11_reach_65 : decode cX11_reach 65 = .ok (.iaload, 1) := by decide +kernel
theorem dX11_reach_66 : decode cX11_reach 66 = .ok (.iload_n 1, 1) := by decide +kernel
theorem dX11_reach_67 : decode cX11_reach 67 = .ok (.if_icmp .gt 9, 3) := by decide +kernel
theorem dX11_reach_70 : decode cX11_reach 70 = .ok (.aload_n 0, 1) := by decide +kernel
theorem dX11_reach_71 : decode cX11_reach 71 = .ok (.iload_n 2, 1) := by decide +kernel
theorem dX11_reach_72 : decode cX11_reach 72 = .ok (.invokevirtual 125, 3) := by decide +kernel
theorem dX11_reach_75 : decode cX11_reach 75 = .ok (.ireturn, 1) := by decide +kernel
theorem dX11_reach_76 : decode cX11_reach 76 = .ok (.iinc 2 1, 3) := by decide +kernel
theorem dX11_reach_79 : decode cX11_reach 79 = .ok (.goto (-48), 3) := by decide +kernel
theorem dX11_reach_82 : decode cX11_reach 82 = .ok (.aload_n 0, 1) := by decide +kernel
theorem dX11_reach_83 : decode cX11_reach 83 = .ok (.bipush (-2), 2) := by decide +kernel
theorem dX11_reach_85 : decode cX11_reach 85 = .ok (.invokevirtual 125, 3) := by decide +kernel
theorem dX11_reach_88 : decode cX11_reach 88 = .ok (.ireturn, 1) := by decide +kernel
theorem dX11_next_0 : decode cX11_next 0 = .ok (.aload_n 0, 1) := by decide +kernel
theorem dX11_next_1 : decode cX11_next 1 = .ok (.getfield 131, 3) := by decide +kernel
theorem dX11_next_4 : decode cX11_next 4 = .ok (.ifCond .ne 9, 3) := by decide +kernel
theorem dX11_next_7 : decode cX11_next 7 = .ok (.aload_n 0, 1) := by decide +kernel
theorem dX11_next_8 : decode cX11_next 8 = .ok (.iconst 1, 1) := by decide +kernel
theorem dX11_next_9 : decode cX11_next 9 = .ok (.invokevirtual 99, 3) := by decide +kernel
theorem dX11_next_12 : decode cX11_next 12 = .ok (.ireturn, 1) := by decide +kernel
theorem dX11_next_13 : decode cX11_next 13 = .ok (.aload_n 0, 1) := by decide +kernel
theorem dX11_next_14 : decode cX11_next 14 = .ok (.aload_n 0, 1) := by decide +kernel
theorem dX11_next_15 : decode cX11_next 15 = .ok (.getfield 66, 3) := by decide +kernel
theorem dX11_next_18 : decode cX11_next 18 = .ok (.aload_n 0, 1) := by decide +kernel
theorem dX11_next_19 : decode cX11_next 19 = .ok (.getfield 83, 3) := by decide +kernel
theorem dX11_next_22 : decode cX11_next 22 = .ok (.aload_n 0, 1) := by decide +kernel
theorem dX11_next_23 : decode cX11_next 23 = .ok (.getfield 23, 3) := by decide +kernel
theorem dX11_next_26 : decode cX11_next 26 = .ok (.invokevirtual 301, 3) := by decide +kernel
theorem dX11_next_29 : decode cX11_next 29 = .ok (.invokevirtual 125, 3) := by decide +kernel
theorem dX11_next_32 : decode cX11_next 32 = .ok (.ireturn, 1) := by decide +kernel
theorem dX11_gains_0 : decode cX11_gains 0 = .ok (.aload_n 0, 1) := by decide +kernel
theorem dX11_gains_1 : decode cX11_gains 1 = .ok (.iload_n 1, 1) := by decide +kernel
theorem dX11_gains_2 : decode cX11_gains 2 = .ok (.invokevirtual 176, 3) := by decide +kernel
theorem dX11_gains_5 : decode cX11_gains 5 = .ok (.ifCond .eq 9, 3) := by decide +kernel
theorem dX11_gains_8 : decode cX11_gains 8 = .ok (.aload_n 0, 1) := by decide +kernel
theorem dX11_gains_9 : decode cX11_gains 9 = .ok (.iconst 1, 1) := by decide +kernel
theorem dX11_gains_10 : decode cX11_gains 10 = .ok (.invokevirtual 99, 3) := by decide +kernel
theorem dX11_gains_13 : decode cX11_gains 13 = .ok (.ireturn, 1) := by decide +kernel
theorem dX11_gains_14 : decode cX11_gains 14 = .ok (.aload_n 0, 1) := by decide +kernel
theorem dX11_gains_15 : decode cX11_gains 15 = .ok (.getfield 23, 3) := by decide +kernel
theorem dX11_gains_18 : decode cX11_gains 18 = .ok (.aload_n 0, 1) := by decide +kernel
theorem dX11_gains_19 : decode cX11_gains 19 = .ok (.getfield 83, 3) := by decide +kernel
theorem dX11_gains_22 : decode cX11_gains 22 = .ok (.invokevirtual 153, 3) := by decide +kernel
theorem dX11_gains_25 : decode cX11_gains 25 = .ok (.aload_n 0, 1) := by decide +kernel
theorem dX11_gains_26 : decode cX11_gains 26 = .ok (.getfield 23, 3) := by decide +kernel
theorem dX11_gains_29 : decode cX11_gains 29 = .ok (.aload_n 0, 1) := by decide +kernel
theorem dX11_gains_30 : decode cX11_gains 30 = .ok (.getfield 83, 3) := by decide +kernel
theorem dX11_gains_33 : decode cX11_gains 33 = .ok (.iload_n 1, 1) := by decide +kernel
theorem dX11_gains_34 : decode cX11_gains 34 = .ok (.invokevirtual 304, 3) := by decide +kernel
theorem dX11_gains_37 : decode cX11_gains 37 = .ok (.isub, 1) := by decide +kernel
theorem dX11_gains_38 : decode cX11_gains 38 = .ok (.istore_n 2, 1) := by decide +kernel
theorem dX11_gains_39 : decode cX11_gains 39 = .ok (.aload_n 0, 1) := by decide +kernel
theorem dX11_gains_40 : decode cX11_gains 40 = .ok (.aload_n 0, 1) := by decide +kernel
theorem dX11_gains_41 : decode cX11_gains 41 = .ok (.getfield 23, 3) := by decide +kernel
theorem dX11_gains_44 : decode cX11_gains 44 = .ok (.aload_n 0, 1) := by decide +kernel
theorem dX11_gains_45 : decode cX11_gains 45 = .ok (.getfield 83, 3) := by decide +kernel
theorem dX11_gains_48 : decode cX11_gains 48 = .ok (.iload_n 2, 1) := by decide +kernel
theorem dX11_gains_49 : decode cX11_gains 49 = .ok (.invokevirtual 307, 3) := by decide +kernel
theorem dX11_gains_52 : decode cX11_gains 52 = .ok (.aload_n 0, 1) := by decide +kernel
theorem dX11_gains_53 : decode cX11_gains 53 = .ok (.getfield 23, 3) := by decide +kernel
theorem dX11_gains_56 : decode cX11_gains 56 = .ok (.aload_n 0, 1) := by decide +kernel
theorem dX11_gains_57 : decode cX11_gains 57 = .ok (.getfield 83, 3) := by decide +kernel
theorem dX11_gains_60 : decode cX11_gains 60 = .ok (.invokevirtual 156, 3) := by decide +kernel
theorem dX11_gains_63 : decode cX11_gains 63 = .ok (.isub, 1) := by decide +kernel
theorem dX11_gains_64 : decode cX11_gains 64 = .ok (.invokevirtual 125, 3) := by decide +kernel
theorem dX11_gains_67 : decode cX11_gains 67 = .ok (.ireturn, 1) := by decide +kernel
theorem dX11_share_0 : decode cX11_share 0 = .ok (.aload_n 0, 1) := by decide +kernel
theorem dX11_share_1 : decode cX11_share 1 = .ok (.iload_n 1, 1) := by decide +kernel
theorem dX11_share_2 : decode cX11_share 2 = .ok (.invokevirtual 176, 3) := by decide +kernel
theorem dX11_share_5 : decode cX11_share 5 = .ok (.ifCond .ne 12, 3) := by decide +kernel
theorem dX11_share_8 : decode cX11_share 8 = .ok (.iload_n 2, 1) := by decide +kernel
theorem dX11_share_9 : decode cX11_share 9 = .ok (.ifCond .lt 8, 3) := by decide +kernel
theorem dX11_share_12 : decode cX11_share 12 = .ok (.iload_n 2, 1) := by decide +kernel
theorem dX11_share_13 : decode cX11_share 13 = .ok (.iconst 1, 1) := by decide +kernel
theorem dX11_share_14 : decode cX11_share 14 = .ok (.if_icmp .le 9, 3) := by decide +kernel
theorem dX11_share_17 : decode cX11_share 17 = .ok (.aload_n 0, 1) := by decide +kernel
theorem dX11_share_18 : decode cX11_share 18 = .ok (.iconst 1, 1) := by decide +kernel
theorem dX11_share_19 : decode cX11_share 19 = .ok (.invokevirtual 99, 3) := by decide +kernel
theorem dX11_share_22 : decode cX11_share 22 = .ok (.ireturn, 1) := by decide +kernel
theorem dX11_share_23 : decode cX11_share 23 = .ok (.aload_n 0, 1) := by decide +kernel
theorem dX11_share_24 : decode cX11_share 24 = .ok (.aload_n 0, 1) := by decide +kernel
theorem dX11_share_25 : decode cX11_share 25 = .ok (.getfield 23, 3) := by decide +kernel
theorem dX11_share_28 : decode cX11_share 28 = .ok (.getfield 173, 3) := by decide +kernel
theorem dX11_share_31 : decode cX11_share 31 = .ok (.iload_n 1, 1) := by decide +kernel
theorem dX11_share_32 : decode cX11_share 32 = .ok (.iaload, 1) := by decide +kernel
theorem dX11_share_33 : decode cX11_share 33 = .ok (.aload_n 0, 1) := by decide +kernel
theorem dX11_share_34 : decode cX11_share 34 = .ok (.getfield 23, 3) := by decide +kernel
theorem dX11_share_37 : decode cX11_share 37 = .ok (.aload_n 0, 1) := by decide +kernel
theorem dX11_share_38 : decode cX11_share 38 = .ok (.getfield 83, 3) := by decide +kernel
theorem dX11_share_41 : decode cX11_share 41 = .ok (.iload_n 1, 1) := by decide +kernel
theorem dX11_share_42 : decode cX11_share 42 = .ok (.invokevirtual 187, 3) := by decide +kernel
theorem dX11_share_45 : decode cX11_share 45 = .ok (.imul, 1) := by decide +kernel
theorem dX11_share_46 : decode cX11_share 46 = .ok (.aload_n 0, 1) := by decide +kernel
theorem dX11_share_47 : decode cX11_share 47 = .ok (.getfield 23, 3) := by decide +kernel
theorem dX11_share_50 : decode cX11_share 50 = .ok (.aload_n 0, 1) := by decide +kernel
theorem dX11_share_51 : decode cX11_share 51 = .ok (.getfield 83, 3) := by decide +kernel
theorem dX11_share_54 : decode cX11_share 54 = .ok (.invokevirtual 159, 3) := by decide +kernel
theorem dX11_share_57 : decode cX11_share 57 = .ok (.iload_n 2, 1) := by decide +kernel
theorem dX11_share_58 : decode cX11_share 58 = .ok (.invokevirtual 291, 3) := by decide +kernel
theorem dX11_share_61 : decode cX11_share 61 = .ok (.ireturn, 1) := by decide +kernel
theorem dX11_write_0 : decode cX11_write 0 = .ok (.aload_n 0, 1) := by decide +kernel
theorem dX11_write_1 : decode cX11_write 1 = .ok (.getfield 131, 3) := by decide +kernel
theorem dX11_write_4 : decode cX11_write 4 = .ok (.ifCond .ne 9, 3) := by decide +kernel
theorem dX11_write_7 : decode cX11_write 7 = .ok (.aload_n 0, 1) := by decide +kernel
theorem dX11_write_8 : decode cX11_write 8 = .ok (.iconst 1, 1) := by decide +kernel
theorem dX11_write_9 : decode cX11_write 9 = .ok (.invokevirtual 99, 3) := by decide +kernel
theorem dX11_write_12 : decode cX11_write 12 = .ok (.ireturn, 1) := by decide +kernel
theorem dX11_write_13 : decode cX11_write 13 = .ok (.aload_n 0, 1) := by decide +kernel
theorem dX11_write_14 : decode cX11_write 14 = .ok (.iconst 0, 1) := by decide +kernel
theorem dX11_write_15 : decode cX11_write 15 = .ok (.putfield 310, 3) := by decide +kernel
theorem dX11_write_18 : decode cX11_write 18 = .ok (.iconst 0, 1) := by decide +kernel
theorem dX11_write_19 : decode cX11_write 19 = .ok (.istore_n 1, 1) := by decide +kernel
theorem dX11_write_20 : decode cX11_write 20 = .ok (.iload_n 1, 1) := by decide +kernel
theorem dX11_write_21 : decode cX11_write 21 = .ok (.aload_n 0, 1) := by decide +kernel
theorem dX11_write_22 : decode cX11_write 22 = .ok (.getfield 83, 3) := by decide +kernel
theorem dX11_write_25 : decode cX11_write 25 = .ok (.getfield 122, 3) := by decide +kernel
theorem dX11_write_28 : decode cX11_write 28 = .ok (.if_icmp .ge 57, 3) := by decide +kernel
theorem dX11_write_31 : decode cX11_write 31 = .ok (.iload_n 1, 1) := by decide +kernel
theorem dX11_write_32 : decode cX11_write 32 = .ok (.ifCond .le 9, 3) := by decide +kernel
theorem dX11_write_35 : decode cX11_write 35 = .ok (.aload_n 0, 1) := by decide +kernel
theorem dX11_write_36 : decode cX11_write 36 = .ok (.bipush 44, 2) := by decide +kernel
theorem dX11_write_38 : decode cX11_write 38 = .ok (.invokevirtual 313, 3) := by decide +kernel
theorem dX11_write_41 : decode cX11_write 41 = .ok (.aload_n 0, 1) := by decide +kernel
theorem dX11_write_42 : decode cX11_write 42 = .ok (.getfield 23, 3) := by decide +kernel
theorem dX11_write_45 : decode cX11_write 45 = .ok (.getfield 173, 3) := by decide +kernel
theorem dX11_write_48 : decode cX11_write 48 = .ok (.iload_n 1, 1) := by decide +kernel
theorem dX11_write_49 : decode cX11_write 49 = .ok (.iaload, 1) := by decide +kernel
theorem dX11_write_50 : decode cX11_write 50 = .ok (.istore_n 2, 1) := by decide +kernel
theorem dX11_write_51 : decode cX11_write 51 = .ok (.iload_n 2, 1) := by decide +kernel
theorem dX11_write_52 : decode cX11_write 52 = .ok (.bipush 10, 2) := by decide +kernel
theorem dX11_write_54 : decode cX11_write 54 = .ok (.if_icmp .lt 14, 3) := by decide +kernel
theorem dX11_write_57 : decode cX11_write 57 = .ok (.aload_n 0, 1) := by decide +kernel
theorem dX11_write_58 : decode cX11_write 58 = .ok (.bipush 48, 2) := by decide +kernel
theorem dX11_write_60 : decode cX11_write 60 = .ok (.iload_n 2, 1) := by decide +kernel
theorem dX11_write_61 : decode cX11_write 61 = .ok (.bipush 10, 2) := by decide +kernel
theorem dX11_write_63 : decode cX11_write 63 = .ok (.idiv, 1) := by decide +kernel
theorem dX11_write_64 : decode cX11_write 64 = .ok (.iadd, 1) := by decide +kernel
theorem dX11_write_65 : decode cX11_write 65 = .ok (.invokevirtual 313, 3) := by decide +kernel
theorem dX11_write_68 : decode cX11_write 68 = .ok (.aload_n 0, 1) := by decide +kernel
theorem dX11_write_69 : decode cX11_write 69 = .ok (.bipush 48, 2) := by decide +kernel
theorem dX11_write_71 : decode cX11_write 71 = .ok (.iload_n 2, 1) := by decide +kernel
theorem dX11_write_72 : decode cX11_write 72 = .ok (.bipush 10, 2) := by decide +kernel
theorem dX11_write_74 : decode cX11_write 74 = .ok (.irem, 1) := by decide +kernel
theorem dX11_write_75 : decode cX11_write 75 = .ok (.iadd, 1) := by decide +kernel
theorem dX11_write_76 : decode cX11_write 76 = .ok (.invokevirtual 313, 3) := by decide +kernel
theorem dX11_write_79 : decode cX11_write 79 = .ok (.iinc 1 1, 3) := by decide +kernel
theorem dX11_write_82 : decode cX11_write 82 = .ok (.goto (-62), 3) := by decide +kernel
theorem dX11_write_85 : decode cX11_write 85 = .ok (.aload_n 0, 1) := by decide +kernel
theorem dX11_write_86 : decode cX11_write 86 = .ok (.aload_n 0, 1) := by decide +kernel
theorem dX11_write_87 : decode cX11_write 87 = .ok (.getfield 310, 3) := by decide +kernel
theorem dX11_write_90 : decode cX11_write 90 = .ok (.invokevirtual 125, 3) := by decide +kernel
theorem dX11_write_93 : decode cX11_write 93 = .ok (.ireturn, 1) := by decide +kernel
theorem dX11_octet_0 : decode cX11_octet 0 = .ok (.iload_n 1, 1) := by decide +kernel
theorem dX11_octet_1 : decode cX11_octet 1 = .ok (.ifCond .lt 11, 3) := by decide +kernel
theorem dX11_octet_4 : decode cX11_octet 4 = .ok (.iload_n 1, 1) := by decide +kernel
theorem dX11_octet_5 : decode cX11_octet 5 = .ok (.aload_n 0, 1) := by decide +kernel
theorem dX11_octet_6 : decode cX11_octet 6 = .ok (.getfield 310, 3) := by decide +kernel
theorem dX11_octet_9 : decode cX11_octet 9 = .ok (.if_icmp .lt 11, 3) := by decide +kernel
theorem dX11_octet_12 : decode cX11_octet 12 = .ok (.new 316, 3) := by decide +kernel
theorem dX11_octet_15 : decode cX11_octet 15 = .ok (.dup, 1) := by decide +kernel
theorem dX11_octet_16 : decode cX11_octet 16 = .ok (.invokespecial 318, 3) := by decide +kernel
theorem dX11_octet_19 : decode cX11_octet 19 = .ok (.athrow, 1) := by decide +kernel
theorem dX11_octet_20 : decode cX11_octet 20 = .ok (.aload_n 0, 1) := by decide +kernel
theorem dX11_octet_21 : decode cX11_octet 21 = .ok (.getfield 77, 3) := by decide +kernel
theorem dX11_octet_24 : decode cX11_octet 24 = .ok (.iload_n 1, 1) := by decide +kernel
theorem dX11_octet_25 : decode cX11_octet 25 = .ok (.iaload, 1) := by decide +kernel
theorem dX11_octet_26 : decode cX11_octet 26 = .ok (.ireturn, 1) := by decide +kernel
theorem dX11_price_0 : decode cX11_price 0 = .ok (.aload_n 0, 1) := by decide +kernel
theorem dX11_price_1 : decode cX11_price 1 = .ok (.iload_n 1, 1) := by decide +kernel
theorem dX11_price_2 : decode cX11_price 2 = .ok (.invokevirtual 176, 3) := by decide +kernel
theorem dX11_price_5 : decode cX11_price 5 = .ok (.ifCond .eq 9, 3) := by decide +kernel
theorem dX11_price_8 : decode cX11_price 8 = .ok (.aload_n 0, 1) := by decide +kernel
theorem dX11_price_9 : decode cX11_price 9 = .ok (.iconst 1, 1) := by decide +kernel
theorem dX11_price_10 : decode cX11_price 10 = .ok (.invokevirtual 99, 3) := by decide +kernel
theorem dX11_price_13 : decode cX11_price 13 = .ok (.ireturn, 1) := by decide +kernel
theorem dX11_price_14 : decode cX11_price 14 = .ok (.iload_n 2, 1) := by decide +kernel
theorem dX11_price_15 : decode cX11_price 15 = .ok (.invokestatic 275, 3) := by decide +kernel
theorem dX11_price_18 : decode cX11_price 18 = .ok (.ifCond .eq 9, 3) := by decide +kernel
theorem dX11_price_21 : decode cX11_price 21 = .ok (.aload_n 0, 1) := by decide +kernel
theorem dX11_price_22 : decode cX11_price 22 = .ok (.iconst 2, 1) := by decide +kernel
theorem dX11_price_23 : decode cX11_price 23 = .ok (.invokevirtual 99, 3) := by decide +kernel
theorem dX11_price_26 : decode cX11_price 26 = .ok (.ireturn, 1) := by decide +kernel
theorem dX11_price_27 : decode cX11_price 27 = .ok (.aload_n 0, 1) := by decide +kernel
theorem dX11_price_28 : decode cX11_price 28 = .ok (.getfield 37, 3) := by decide +kernel
theorem dX11_price_31 : decode cX11_price 31 = .ok (.aload_n 0, 1) := by decide +kernel
theorem dX11_price_32 : decode cX11_price 32 = .ok (.getfield 23, 3) := by decide +kernel
theorem dX11_price_35 : decode cX11_price 35 = .ok (.invokevirtual 319, 3) := by decide +kernel
theorem dX11_price_38 : decode cX11_price 38 = .ok (.aload_n 0, 1) := by decide +kernel
theorem dX11_price_39 : decode cX11_price 39 = .ok (.getfield 23, 3) := by decide +kernel
theorem dX11_price_42 : decode cX11_price 42 = .ok (.getfield 173, 3) := by decide +kernel
theorem dX11_price_45 : decode cX11_price 45 = .ok (.iload_n 1, 1) := by decide +kernel
theorem dX11_price_46 : decode cX11_price 46 = .ok (.iaload, 1) := by decide +kernel
theorem dX11_price_47 : decode cX11_price 47 = .ok (.istore_n 3, 1) := by decide +kernel
theorem dX11_price_48 : decode cX11_price 48 = .ok (.aload_n 0, 1) := by decide +kernel
theorem dX11_price_49 : decode cX11_price 49 = .ok (.getfield 23, 3) := by decide +kernel
theorem dX11_price_52 : decode cX11_price 52 = .ok (.getfield 173, 3) := by decide +kernel
theorem dX11_price_55 : decode cX11_price 55 = .ok (.iload_n 1, 1) := by decide +kernel
theorem dX11_price_56 : decode cX11_price 56 = .ok (.iload_n 2, 1) := by decide +kernel
theorem dX11_price_57 : decode cX11_price 57 = .ok (.iastore, 1) := by decide +kernel
theorem dX11_price_58 : decode cX11_price 58 = .ok (.aload_n 0, 1) := by decide +kernel
theorem dX11_price_59 : decode cX11_price 59 = .ok (.invokevirtual 323, 3) := by decide +kernel
theorem dX11_price_62 : decode cX11_price 62 = .ok (.aload_n 0, 1) := by decide +kernel
theorem dX11_price_63 : decode cX11_price 63 = .ok (.iload_n 3, 1) := by decide +kernel
theorem dX11_price_64 : decode cX11_price 64 = .ok (.invokevirtual 125, 3) := by decide +kernel
theorem dX11_price_67 : decode cX11_price 67 = .ok (.ireturn, 1) := by decide +kernel
theorem dX11_lay_0 : decode cX11_lay 0 = .ok (.aload_n 0, 1) := by decide +kernel
theorem dX11_lay_1 : decode cX11_lay 1 = .ok (.getfield 131, 3) := by decide +kernel
theorem dX11_lay_4 : decode cX11_lay 4 = .ok (.ifCond .ne 9, 3) := by decide +kernel
theorem dX11_lay_7 : decode cX11_lay 7 = .ok (.aload_n 0, 1) := by decide +kernel
theorem dX11_lay_8 : decode cX11_lay 8 = .ok (.iconst 1, 1) := by decide +kernel
theorem dX11_lay_9 : decode cX11_lay 9 = .ok (.invokevirtual 99, 3) := by decide +kernel
theorem dX11_lay_12 : decode cX11_lay 12 = .ok (.ireturn, 1) := by decide +kernel
theorem dX11_lay_13 : decode cX11_lay 13 = .ok (.iload_n 1, 1) := by decide +kernel
theorem dX11_lay_14 : decode cX11_lay 14 = .ok (.ifCond .eq 21, 3) := by decide +kernel
theorem dX11_lay_17 : decode cX11_lay 17 = .ok (.aload_n 0, 1) := by decide +kernel
theorem dX11_lay_18 : decode cX11_lay 18 = .ok (.getfield 59, 3) := by decide +kernel
theorem dX11_lay_21 : decode cX11_lay 21 = .ok (.aload_n 0, 1) := by decide +kernel
theorem dX11_lay_22 : decode cX11_lay 22 = .ok (.getfield 83, 3) := by decide +kernel
theorem dX11_lay_25 : decode cX11_lay 25 = .ok (.aload_n 0, 1) := by decide +kernel
theorem dX11_lay_26 : decode cX11_lay 26 = .ok (.getfield 23, 3) := by decide +kernel
theorem dX11_lay_29 : decode cX11_lay 29 = .ok (.invokevirtual 232, 3) := by decide +kernel
theorem dX11_lay_32 : decode cX11_lay 32 = .ok (.goto 18, 3) := by decide +kernel
theorem dX11_lay_35 : decode cX11_lay 35 = .ok (.aload_n 0, 1) := by decide +kernel
theorem dX11_lay_36 : decode cX11_lay 36 = .ok (.getfield 59, 3) := by decide +kernel
theorem dX11_lay_39 : decode cX11_lay 39 = .ok (.aload_n 0, 1) := by decide +kernel
theorem dX11_lay_40 : decode cX11_lay 40 = .ok (.getfield 83, 3) := by decide +kernel
theorem dX11_lay_43 : decode cX11_lay 43 = .ok (.aload_n 0, 1) := by decide +kernel
theorem dX11_lay_44 : decode cX11_lay 44 = .ok (.getfield 23, 3) := by decide +kernel
theorem dX11_lay_47 : decode cX11_lay 47 = .ok (.invokevirtual 220, 3) := by decide +kernel
theorem dX11_lay_50 : decode cX11_lay 50 = .ok (.astore_n 2, 1) := by decide +kernel
theorem dX11_lay_51 : decode cX11_lay 51 = .ok (.aload_n 0, 1) := by decide +kernel
theorem dX11_lay_52 : decode cX11_lay 52 = .ok (.getfield 37, 3) := by decide +kernel
theorem dX11_lay_55 : decode cX11_lay 55 = .ok (.aload_n 0, 1) := by decide +kernel
theorem dX11_lay_56 : decode cX11_lay 56 = .ok (.getfield 23, 3) := by decide +kernel
theorem dX11_lay_59 : decode cX11_lay 59 = .ok (.invokevirtual 319, 3) := by decide +kernel
theorem dX11_lay_62 : decode cX11_lay 62 = .ok (.aload_n 2, 1) := by decide +kernel
theorem dX11_lay_63 : decode cX11_lay 63 = .ok (.getfield 290, 3) := by decide +kernel
theorem dX11_lay_66 : decode cX11_lay 66 = .ok (.iconst 0, 1) := by decide +kernel
theorem dX11_lay_67 : decode cX11_lay 67 = .ok (.aload_n 0, 1) := by decide +kernel
theorem dX11_lay_68 : decode cX11_lay 68 = .ok (.getfield 23, 3) := by decide +kernel
theorem dX11_lay_71 : decode cX11_lay 71 = .ok (.getfield 173, 3) := by decide +kernel
theorem dX11_lay_74 : decode cX11_lay 74 = .ok (.iconst 0, 1) := by decide +kernel
theorem dX11_lay_75 : decode cX11_lay 75 = .ok (.iconst 4, 1) := by decide +kernel
theorem dX11_lay_76 : decode cX11_lay 76 = .ok (.invokestatic 326, 3) := by decide +kernel
theorem dX11_lay_79 : decode cX11_lay 79 = .ok (.aload_n 0, 1) := by decide +kernel
theorem dX11_lay_80 : decode cX11_lay 80 = .ok (.invokevirtual 323, 3) := by decide +kernel
theorem dX11_lay_83 : decode cX11_lay 83 = .ok (.aload_n 0, 1) := by decide +kernel
theorem dX11_lay_84 : decode cX11_lay 84 = .ok (.aload_n 0, 1) := by decide +kernel
theorem dX11_lay_85 : decode cX11_lay 85 = .ok (.getfield 23, 3) := by decide +kernel
theorem dX11_lay_88 : decode cX11_lay 88 = .ok (.aload_n 0, 1) := by decide +kernel
theorem dX11_lay_89 : decode cX11_lay 89 = .ok (.getfield 83, 3) := by decide +kernel
theorem dX11_lay_92 : decode cX11_lay 92 = .ok (.invokevirtual 159, 3) := by decide +kernel
theorem dX11_lay_95 : decode cX11_lay 95 = .ok (.invokevirtual 125, 3) := by decide +kernel
theorem dX11_lay_98 : decode cX11_lay 98 = .ok (.ireturn, 1) := by decide +kernel
theorem dX11_quality_0 : decode cX11_quality 0 = .ok (.aload_n 0, 1) := by decide +kernel
theorem dX11_quality_1 : decode cX11_quality 1 = .ok (.iload_n 1, 1) := by decide +kernel
theorem dX11_quality_2 : decode cX11_quality 2 = .ok (.invokevirtual 176, 3) := by decide +kernel
theorem dX11_quality_5 : decode cX11_quality 5 = .ok (.ifCond .eq 9, 3) := by decide +kernel
theorem dX11_quality_8 : decode cX11_quality 8 = .ok (.aload_n 0, 1) := by decide +kernel
theorem dX11_quality_9 : decode cX11_quality 9 = .ok (.iconst 1, 1) := by decide +kernel
theorem dX11_quality_10 : decode cX11_quality 10 = .ok (.invokevirtual 99, 3) := by decide +kernel
theorem dX11_quality_13 : decode cX11_quality 13 = .ok (.ireturn, 1) := by decide +kernel
theorem dX11_quality_14 : decode cX11_quality 14 = .ok (.iload_n 2, 1) := by decide +kernel
theorem dX11_quality_15 : decode cX11_quality 15 = .ok (.ifCond .lt 9, 3) := by decide +kernel
theorem dX11_quality_18 : decode cX11_quality 18 = .ok (.iload_n 2, 1) := by decide +kernel
theorem dX11_quality_19 : decode cX11_quality 19 = .ok (.bipush 99, 2) := by decide +kernel
theorem dX11_quality_21 : decode cX11_quality 21 = .ok (.if_icmp .le 9, 3) := by decide +kernel
theorem dX11_quality_24 : decode cX11_quality 24 = .ok (.aload_n 0, 1) := by decide +kernel
theorem dX11_quality_25 : decode cX11_quality 25 = .ok (.iconst 2, 1) := by decide +kernel
theorem dX11_quality_26 : decode cX11_quality 26 = .ok (.invokevirtual 99, 3) := by decide +kernel
theorem dX11_quality_29 : decode cX11_quality 29 = .ok (.ireturn, 1) := by decide +kernel
theorem dX11_quality_30 : decode cX11_quality 30 = .ok (.aload_n 0, 1) := by decide +kernel
theorem dX11_quality_31 : decode cX11_quality 31 = .ok (.getfield 37, 3) := by decide +kernel
theorem dX11_quality_34 : decode cX11_quality 34 = .ok (.aload_n 0, 1) := by decide +kernel
theorem dX11_quality_35 : decode cX11_quality 35 = .ok (.getfield 23, 3) := by decide +kernel
theorem dX11_quality_38 : decode cX11_quality 38 = .ok (.invokevirtual 319, 3) := by decide +kernel
theorem dX11_quality_41 : decode cX11_quality 41 = .ok (.aload_n 0, 1) := by decide +kernel
theorem dX11_quality_42 : decode cX11_quality 42 = .ok (.getfield 23, 3) := by decide +kernel
theorem dX11_quality_45 : decode cX11_quality 45 = .ok (.getfield 184, 3) := by decide +kernel
theorem dX11_quality_48 : decode cX11_quality 48 = .ok (.iload_n 1, 1) := by decide +kernel
theorem dX11_quality_49 : decode cX11_quality 49 = .ok (.iaload, 1) := by decide +kernel
theorem dX11_quality_50 : decode cX11_quality 50 = .ok (.istore_n 3, 1) := by decide +kernel
theorem dX11_quality_51 : decode cX11_quality 51 = .ok (.aload_n 0, 1) := by decide +kernel
theorem dX11_quality_52 : decode cX11_quality 52 = .ok (.getfield 23, 3) := by decide +kernel
theorem dX11_quality_55 : decode cX11_quality 55 = .ok (.getfield 184, 3) := by decide +kernel
theorem dX11_quality_58 : decode cX11_quality 58 = .ok (.iload_n 1, 1) := by decide +kernel
theorem dX11_quality_59 : decode cX11_quality 59 = .ok (.iload_n 2, 1) := by decide +kernel
theorem dX11_quality_60 : decode cX11_quality 60 = .ok (.iastore, 1) := by decide +kernel
theorem dX11_quality_61 : decode cX11_quality 61 = .ok (.aload_n 0, 1) := by decide +kernel
theorem dX11_quality_62 : decode cX11_quality 62 = .ok (.invokevirtual 332, 3) := by decide +kernel
theorem dX11_quality_65 : decode cX11_quality 65 = .ok (.aload_n 0, 1) := by decide +kernel
theorem dX11_quality_66 : decode cX11_quality 66 = .ok (.iload_n 3, 1) := by decide +kernel
theorem dX11_quality_67 : decode cX11_quality 67 = .ok (.invokevirtual 125, 3) := by decide +kernel
theorem dX11_quality_70 : decode cX11_quality 70 = .ok (.ireturn, 1) := by decide +kernel
theorem dX11_become_0 : decode cX11_become 0 = .ok (.aload_n 0, 1) := by decide +kernel
theorem dX11_become_1 : decode cX11_become 1 = .ok (.getfield 131, 3) := by decide +kernel
theorem dX11_become_4 : decode cX11_become 4 = .ok (.ifCond .eq 12, 3) := by decide +kernel
theorem dX11_become_7 : decode cX11_become 7 = .ok (.iload_n 1, 1) := by decide +kernel
theorem dX11_become_8 : decode cX11_become 8 = .ok (.ifCond .lt 8, 3) := by decide +kernel
theorem dX11_become_11 : decode cX11_become 11 = .ok (.iload_n 1, 1) := by decide +kernel
theorem dX11_become_12 : decode cX11_become 12 = .ok (.iconst 4, 1) := by decide +kernel
theorem dX11_become_13 : decode cX11_become 13 = .ok (.if_icmp .lt 9, 3) := by decide +kernel
theorem dX11_become_16 : decode cX11_become 16 = .ok (.aload_n 0, 1) := by decide +kernel
theorem dX11_become_17 : decode cX11_become 17 = .ok (.iconst 1, 1) := by decide +kernel
theorem dX11_become_18 : decode cX11_become 18 = .ok (.invokevirtual 99, 3) := by decide +kernel
theorem dX11_become_21 : decode cX11_become 21 = .ok (.ireturn, 1) := by decide +kernel
theorem dX11_become_22 : decode cX11_become 22 = .ok (.iload_n 2, 1) := by decide +kernel
theorem dX11_become_23 : decode cX11_become 23 = .ok (.ifCond .lt 11, 3) := by decide +kernel
theorem dX11_become_26 : decode cX11_become 26 = .ok (.iload_n 2, 1) := by decide +kernel
theorem dX11_become_27 : decode cX11_become 27 = .ok (.iload_n 1, 1) := by decide +kernel
theorem dX11_become_28 : decode cX11_become 28 = .ok (.invokestatic 335, 3) := by decide +kernel
theorem dX11_become_31 : decode cX11_become 31 = .ok (.if_icmp .le 9, 3) := by decide +kernel
theorem dX11_become_34 : decode cX11_become 34 = .ok (.aload_n 0, 1) := by decide +kernel
theorem dX11_become_35 : decode cX11_become 35 = .ok (.iconst 2, 1) := by decide +kernel
theorem dX11_become_36 : decode cX11_become 36 = .ok (.invokevirtual 99, 3) := by decide +kernel
theorem dX11_become_39 : decode cX11_become 39 = .ok (.ireturn, 1) := by decide +kernel
theorem dX11_become_40 : decode cX11_become 40 = .ok (.aload_n 0, 1) := by decide +kernel
theorem dX11_become_41 : decode cX11_become 41 = .ok (.getfield 37, 3) := by decide +kernel
theorem dX11_become_44 : decode cX11_become 44 = .ok (.aload_n 0, 1) := by decide +kernel
theorem dX11_become_45 : decode cX11_become 45 = .ok (.getfield 23, 3) := by decide +kernel
theorem dX11_become_48 : decode cX11_become 48 = .ok (.invokevirtual 319, 3) := by decide +kernel
theorem dX11_become_51 : decode cX11_become 51 = .ok (.aload_n 0, 1) := by decide +kernel
theorem dX11_become_52 : decode cX11_become 52 = .ok (.getfield 23, 3) := by decide +kernel
theorem dX11_become_55 : decode cX11_become 55 = .ok (.getfield 191, 3) := by decide +kernel
theorem dX11_become_58 : decode cX11_become 58 = .ok (.iload_n 1, 1) := by decide +kernel
theorem dX11_become_59 : decode cX11_become 59 = .ok (.iaload, 1) := by decide +kernel
theorem dX11_become_60 : decode cX11_become 60 = .ok (.istore_n 3, 1) := by decide +kernel
theorem dX11_become_61 : decode cX11_become 61 = .ok (.aload_n 0, 1) := by decide +kernel
theorem dX11_become_62 : decode cX11_become 62 = .ok (.getfield 23, 3) := by decide +kernel
theorem dX11_become_65 : decode cX11_become 65 = .ok (.getfield 191, 3) := by decide +kernel
theorem dX11_become_68 : decode cX11_become 68 = .ok (.iload_n 1, 1) := by decide +kernel
theorem dX11_become_69 : decode cX11_become 69 = .ok (.iload_n 2, 1) := by decide +kernel
theorem dX11_become_70 : decode cX11_become 70 = .ok (.iastore, 1) := by decide +kernel
theorem dX11_become_71 : decode cX11_become 71 = .ok (.aload_n 0, 1) := by decide +kernel
theorem dX11_become_72 : decode cX11_become 72 = .ok (.invokevirtual 332, 3) := by decide +kernel
theorem dX11_become_75 : decode cX11_become 75 = .ok (.aload_n 0, 1) := by decide +kernel
theorem dX11_become_76 : decode cX11_become 76 = .ok (.iload_n 3, 1) := by decide +kernel
theorem dX11_become_77 : decode cX11_become 77 = .ok (.invokevirtual 125, 3) := by decide +kernel
theorem dX11_become_80 : decode cX11_become 80 = .ok (.ireturn, 1) := by decide +kernel
theorem dX11_year_0 : decode cX11_year 0 = .ok (.aload_n 0, 1) := by decide +kernel
theorem dX11_year_1 : decode cX11_year 1 = .ok (.getfield 131, 3) := by decide +kernel
theorem dX11_year_4 : decode cX11_year 4 = .ok (.ifCond .ne 9, 3) := by decide +kernel
theorem dX11_year_7 : decode cX11_year 7 = .ok (.aload_n 0, 1) := by decide +kernel
theorem dX11_year_8 : decode cX11_year 8 = .ok (.iconst 1, 1) := by decide +kernel
theorem dX11_year_9 : decode cX11_year 9 = .ok (.invokevirtual 99, 3) := by decide +kernel
theorem dX11_year_12 : decode cX11_year 12 = .ok (.ireturn, 1) := by decide +kernel
theorem dX11_year_13 : decode cX11_year 13 = .ok (.aload_n 0, 1) := by decide +kernel
theorem dX11_year_14 : decode cX11_year 14 = .ok (.getfield 23, 3) := by decide +kernel
theorem dX11_year_17 : decode cX11_year 17 = .ok (.getfield 135, 3) := by decide +kernel
theorem dX11_year_20 : decode cX11_year 20 = .ok (.bipush 99, 2) := by decide +kernel
theorem dX11_year_22 : decode cX11_year 22 = .ok (.if_icmp .ge 21, 3) := by decide +kernel
theorem dX11_year_25 : decode cX11_year 25 = .ok (.iload_n 1, 1) := by decide +kernel
theorem dX11_year_26 : decode cX11_year 26 = .ok (.ifCond .ne 23, 3) := by decide +kernel
theorem dX11_year_29 : decode cX11_year 29 = .ok (.aload_n 0, 1) := by decide +kernel
theorem dX11_year_30 : decode cX11_year 30 = .ok (.getfield 23, 3) := by decide +kernel
theorem dX11_year_33 : decode cX11_year 33 = .ok (.aload_n 0, 1) := by decide +kernel
theorem dX11_year_34 : decode cX11_year 34 = .ok (.getfield 83, 3) := by decide +kernel
theorem dX11_year_37 : decode cX11_year 37 = .ok (.invokevirtual 162, 3) := by decide +kernel
theorem dX11_year_40 : decode cX11_year 40 = .ok (.ifCond .ne 9, 3) := by decide +kernel
theorem dX11_year_43 : decode cX11_year 43 = .ok (.aload_n 0, 1) := by decide +kernel
theorem dX11_year_44 : decode cX11_year 44 = .ok (.iconst 5, 1) := by decide +kernel
theorem dX11_year_45 : decode cX11_year 45 = .ok (.invokevirtual 99, 3) := by decide +kernel
theorem dX11_year_48 : decode cX11_year 48 = .ok (.ireturn, 1) := by decide +kernel
theorem dX11_year_49 : decode cX11_year 49 = .ok (.aload_n 0, 1) := by decide +kernel
theorem dX11_year_50 : decode cX11_year 50 = .ok (.getfield 37, 3) := by decide +kernel
theorem dX11_year_53 : decode cX11_year 53 = .ok (.aload_n 0, 1) := by decide +kernel
theorem dX11_year_54 : decode cX11_year 54 = .ok (.getfield 23, 3) := by decide +kernel
theorem dX11_year_57 : decode cX11_year 57 = .ok (.invokevirtual 319, 3) := by decide +kernel
theorem dX11_year_60 : decode cX11_year 60 = .ok (.aload_n 0, 1) := by decide +kernel
theorem dX11_year_61 : decode cX11_year 61 = .ok (.getfield 30, 3) := by decide +kernel
theorem dX11_year_64 : decode cX11_year 64 = .ok (.aload_n 0, 1) := by decide +kernel
theorem dX11_year_65 : decode cX11_year 65 = .ok (.getfield 83, 3) := by decide +kernel
theorem dX11_year_68 : decode cX11_year 68 = .ok (.aload_n 0, 1) := by decide +kernel
theorem dX11_year_69 : decode cX11_year 69 = .ok (.getfield 23, 3) := by decide +kernel
theorem dX11_year_72 : decode cX11_year 72 = .ok (.invokevirtual 338, 3) := by decide +kernel
theorem dX11_year_75 : decode cX11_year 75 = .ok (.aload_n 0, 1) := by decide +kernel
theorem dX11_year_76 : decode cX11_year 76 = .ok (.getfield 23, 3) := by decide +kernel
theorem dX11_year_79 : decode cX11_year 79 = .ok (.aload_n 0, 1) := by decide +kernel
theorem dX11_year_80 : decode cX11_year 80 = .ok (.getfield 83, 3) := by decide +kernel
theorem dX11_year_83 : decode cX11_year 83 = .ok (.invokevirtual 342, 3) := by decide +kernel
theorem dX11_year_86 : decode cX11_year 86 = .ok (.aload_n 0, 1) := by decide +kernel
theorem dX11_year_87 : decode cX11_year 87 = .ok (.invokevirtual 332, 3) := by decide +kernel
theorem dX11_year_90 : decode cX11_year 90 = .ok (.aload_n 0, 1) := by decide +kernel
theorem dX11_year_91 : decode cX11_year 91 = .ok (.aload_n 0, 1) := by decide +kernel
theorem dX11_year_92 : decode cX11_year 92 = .ok (.getfield 23, 3) := by decide +kernel
theorem dX11_year_95 : decode cX11_year 95 = .ok (.getfield 135, 3) := by decide +kernel
theorem dX11_year_98 : decode cX11_year 98 = .ok (.invokevirtual 125, 3) := by decide +kernel
theorem dX11_year_101 : decode cX11_year 101 = .ok (.ireturn, 1) := by decide +kernel
theorem dX11_undo_0 : decode cX11_undo 0 = .ok (.aload_n 0, 1) := by decide +kernel
theorem dX11_undo_1 : decode cX11_undo 1 = .ok (.getfield 131, 3) := by decide +kernel
theorem dX11_undo_4 : decode cX11_undo 4 = .ok (.ifCond .ne 9, 3) := by decide +kernel
theorem dX11_undo_7 : decode cX11_undo 7 = .ok (.aload_n 0, 1) := by decide +kernel
theorem dX11_undo_8 : decode cX11_undo 8 = .ok (.iconst 1, 1) := by decide +kernel
theorem dX11_undo_9 : decode cX11_undo 9 = .ok (.invokevirtual 99, 3) := by decide +kernel
theorem dX11_undo_12 : decode cX11_undo 12 = .ok (.ireturn, 1) := by decide +kernel
theorem dX11_undo_13 : decode cX11_undo 13 = .ok (.aload_n 0, 1) := by decide +kernel
theorem dX11_undo_14 : decode cX11_undo 14 = .ok (.getfield 37, 3) := by decide +kernel
theorem dX11_undo_17 : decode cX11_undo 17 = .ok (.getfield 166, 3) := by decide +kernel
theorem dX11_undo_20 : decode cX11_undo 20 = .ok (.ifCond .ne 9, 3) := by decide +kernel
theorem dX11_undo_23 : decode cX11_undo 23 = .ok (.aload_n 0, 1) := by decide +kernel
theorem dX11_undo_24 : decode cX11_undo 24 = .ok (.iconst 5, 1) := by decide +kernel
theorem dX11_undo_25 : decode cX11_undo 25 = .ok (.invokevirtual 99, 3) := by decide +kernel
theorem dX11_undo_28 : decode cX11_undo 28 = .ok (.ireturn, 1) := by decide +kernel
theorem dX11_undo_29 : decode cX11_undo 29 = .ok (.aload_n 0, 1) := by decide +kernel
theorem dX11_undo_30 : decode cX11_undo 30 = .ok (.getfield 37, 3) := by decide +kernel
theorem dX11_undo_33 : decode cX11_undo 33 = .ok (.aload_n 0, 1) := by decide +kernel
theorem dX11_undo_34 : decode cX11_undo 34 = .ok (.getfield 23, 3) := by decide +kernel
theorem dX11_undo_37 : decode cX11_undo 37 = .ok (.invokevirtual 346, 3) := by decide +kernel
theorem dX11_undo_40 : decode cX11_undo 40 = .ok (.aload_n 0, 1) := by decide +kernel
theorem dX11_undo_41 : decode cX11_undo 41 = .ok (.invokevirtual 332, 3) := by decide +kernel
theorem dX11_undo_44 : decode cX11_undo 44 = .ok (.aload_n 0, 1) := by decide +kernel
theorem dX11_undo_45 : decode cX11_undo 45 = .ok (.aload_n 0, 1) := by decide +kernel
theorem dX11_undo_46 : decode cX11_undo 46 = .ok (.getfield 37, 3) := by decide +kernel
theorem dX11_undo_49 : decode cX11_undo 49 = .ok (.getfield 166, 3) := by decide +kernel
theorem dX11_undo_52 : decode cX11_undo 52 = .ok (.invokevirtual 125, 3) := by decide +kernel
theorem dX11_undo_55 : decode cX11_undo 55 = .ok (.ireturn, 1) := by decide +kernel
theorem dX11_keep_0 : decode cX11_keep 0 = .ok (.aload_n 0, 1) := by decide +kernel
theorem dX11_keep_1 : decode cX11_keep 1 = .ok (.getfield 131, 3) := by decide +kernel
theorem dX11_keep_4 : decode cX11_keep 4 = .ok (.ifCond .eq 12, 3) := by decide +kernel
theorem dX11_keep_7 : decode cX11_keep 7 = .ok (.iload_n 1, 1) := by decide +kernel
theorem dX11_keep_8 : decode cX11_keep 8 = .ok (.ifCond .lt 8, 3) := by decide +kernel
theorem dX11_keep_11 : decode cX11_keep 11 = .ok (.iload_n 1, 1) := by decide +kernel
theorem dX11_keep_12 : decode cX11_keep 12 = .ok (.iconst 2, 1) := by decide +kernel
theorem dX11_keep_13 : decode cX11_keep 13 = .ok (.if_icmp .lt 11, 3) := by decide +kernel
theorem dX11_keep_16 : decode cX11_keep 16 = .ok (.aload_n 0, 1) := by decide +kernel
theorem dX11_keep_17 : decode cX11_keep 17 = .ok (.iconst 1, 1) := by decide +kernel
theorem dX11_keep_18 : decode cX11_keep 18 = .ok (.invokevirtual 99, 3) := by decide +kernel
theorem dX11_keep_21 : decode cX11_keep 21 = .ok (.pop, 1) := by decide +kernel
theorem dX11_keep_22 : decode cX11_keep 22 = .ok (.iconst 0, 1) := by decide +kernel
theorem dX11_keep_23 : decode cX11_keep 23 = .ok (.ireturn, 1) := by decide +kernel
theorem dX11_keep_24 : decode cX11_keep 24 = .ok (.aload_n 0, 1) := by decide +kernel
theorem dX11_keep_25 : decode cX11_keep 25 = .ok (.getfield 43, 3) := by decide +kernel
theorem dX11_keep_28 : decode cX11_keep 28 = .ok (.iload_n 1, 1) := by decide +kernel
theorem dX11_keep_29 : decode cX11_keep 29 = .ok (.aaload, 1) := by decide +kernel
theorem dX11_keep_30 : decode cX11_keep 30 = .ok (.aload_n 0, 1) := by decide +kernel
theorem dX11_keep_31 : decode cX11_keep 31 = .ok (.getfield 23, 3) := by decide +kernel
theorem dX11_keep_34 : decode cX11_keep 34 = .ok (.aload_n 0, 1) := by decide +kernel
theorem dX11_keep_35 : decode cX11_keep 35 = .ok (.getfield 30, 3) := by decide +kernel
theorem dX11_keep_38 : decode cX11_keep 38 = .ok (.invokevirtual 349, 3) := by decide +kernel
theorem dX11_keep_41 : decode cX11_keep 41 = .ok (.aload_n 0, 1) := by decide +kernel
theorem dX11_keep_42 : decode cX11_keep 42 = .ok (.iconst 0, 1) := by decide +kernel
theorem dX11_keep_43 : decode cX11_keep 43 = .ok (.invokevirtual 125, 3) := by decide +kernel
theorem dX11_keep_46 : decode cX11_keep 46 = .ok (.pop, 1) := by decide +kernel
theorem dX11_keep_47 : decode cX11_keep 47 = .ok (.iconst 1, 1) := by decide +kernel
theorem dX11_keep_48 : decode cX11_keep 48 = .ok (.ireturn, 1) := by decide +kernel
theorem dX11_back_0 : decode cX11_back 0 = .ok (.aload_n 0, 1) := by decide +kernel
theorem dX11_back_1 : decode cX11_back 1 = .ok (.getfield 131, 3) := by decide +kernel
theorem dX11_back_4 : decode cX11_back 4 = .ok (.ifCond .eq 24, 3) := by decide +kernel
theorem dX11_back_7 : decode cX11_back 7 = .ok (.iload_n 1, 1) := by decide +kernel
theorem dX11_back_8 : decode cX11_back 8 = .ok (.ifCond .lt 20, 3) := by decide +kernel
theorem dX11_back_11 : decode cX11_back 11 = .ok (.iload_n 1, 1) := by decide +kernel
theorem dX11_back_12 : decode cX11_back 12 = .ok (.iconst 2, 1) := by decide +kernel
theorem dX11_back_13 : decode cX11_back 13 = .ok (.if_icmp .ge 15, 3) := by decide +kernel
theorem dX11_back_16 : decode cX11_back 16 = .ok (.aload_n 0, 1) := by decide +kernel
theorem dX11_back_17 : decode cX11_back 17 = .ok (.getfield 43, 3) := by decide +kernel
theorem dX11_back_20 : decode cX11_back 20 = .ok (.iload_n 1, 1) := by decide +kernel
theorem dX11_back_21 : decode cX11_back 21 = .ok (.aaload, 1) := by decide +kernel
theorem dX11_back_22 : decode cX11_back 22 = .ok (.getfield 353, 3) := by decide +kernel
theorem dX11_back_25 : decode cX11_back 25 = .ok (.ifCond .ne 11, 3) := by decide +kernel
theorem dX11_back_28 : decode cX11_back 28 = .ok (.aload_n 0, 1) := by decide +kernel
theorem dX11_back_29 : decode cX11_back 29 = .ok (.iconst 1, 1) := by decide +kernel
theorem dX11_back_30 : decode cX11_back 30 = .ok (.invokevirtual 99, 3) := by decide +kernel
theorem dX11_back_33 : decode cX11_back 33 = .ok (.pop, 1) := by decide +kernel
theorem dX11_back_34 : decode cX11_back 34 = .ok (.iconst 0, 1) := by decide +kernel
theorem dX11_back_35 : decode cX11_back 35 = .ok (.ireturn, 1) := by decide +kernel
theorem dX11_back_36 : decode cX11_back 36 = .ok (.aload_n 0, 1) := by decide +kernel
theorem dX11_back_37 : decode cX11_back 37 = .ok (.getfield 43, 3) := by decide +kernel
theorem dX11_back_40 : decode cX11_back 40 = .ok (.iload_n 1, 1) := by decide +kernel
theorem dX11_back_41 : decode cX11_back 41 = .ok (.aaload, 1) := by decide +kernel
theorem dX11_back_42 : decode cX11_back 42 = .ok (.aload_n 0, 1) := by decide +kernel
theorem dX11_back_43 : decode cX11_back 43 = .ok (.getfield 23, 3) := by decide +kernel
theorem dX11_back_46 : decode cX11_back 46 = .ok (.aload_n 0, 1) := by decide +kernel
theorem dX11_back_47 : decode cX11_back 47 = .ok (.getfield 30, 3) := by decide +kernel
theorem dX11_back_50 : decode cX11_back 50 = .ok (.invokevirtual 354, 3) := by decide +kernel
theorem dX11_back_53 : decode cX11_back 53 = .ok (.aload_n 0, 1) := by decide +kernel
theorem dX11_back_54 : decode cX11_back 54 = .ok (.getfield 37, 3) := by decide +kernel
theorem dX11_back_57 : decode cX11_back 57 = .ok (.invokevirtual 357, 3) := by decide +kernel
theorem dX11_back_60 : decode cX11_back 60 = .ok (.aload_n 0, 1) := by decide +kernel
theorem dX11_back_61 : decode cX11_back 61 = .ok (.invokevirtual 332, 3) := by decide +kernel
theorem dX11_back_64 : decode cX11_back 64 = .ok (.aload_n 0, 1) := by decide +kernel
theorem dX11_back_65 : decode cX11_back 65 = .ok (.iconst 0, 1) := by decide +kernel
theorem dX11_back_66 : decode cX11_back 66 = .ok (.invokevirtual 125, 3) := by decide +kernel
theorem dX11_back_69 : decode cX11_back 69 = .ok (.pop, 1) := by decide +kernel
theorem dX11_back_70 : decode cX11_back 70 = .ok (.iconst 1, 1) := by decide +kernel
theorem dX11_back_71 : decode cX11_back 71 = .ok (.ireturn, 1) := by decide +kernel
theorem dX11_book_0 : decode cX11_book 0 = .ok (.aload_n 0, 1) := by decide +kernel
theorem dX11_book_1 : decode cX11_book 1 = .ok (.getfield 131, 3) := by decide +kernel
theorem dX11_book_4 : decode cX11_book 4 = .ok (.ifCond .eq 27, 3) := by decide +kernel
theorem dX11_book_7 : decode cX11_book 7 = .ok (.iload_n 1, 1) := by decide +kernel
theorem dX11_book_8 : decode cX11_book 8 = .ok (.ifCond .lt 23, 3) := by decide +kernel
theorem dX11_book_11 : decode cX11_book 11 = .ok (.iload_n 1, 1) := by decide +kernel
theorem dX11_book_12 : decode cX11_book 12 = .ok (.aload_n 0, 1) := by decide +kernel
theorem dX11_book_13 : decode cX11_book 13 = .ok (.getfield 23, 3) := by decide +kernel
theorem dX11_book_16 : decode cX11_book 16 = .ok (.getfield 135, 3) := by decide +kernel
theorem dX11_book_19 : decode cX11_book 19 = .ok (.if_icmp .ge 12, 3) := by decide +kernel
theorem dX11_book_22 : decode cX11_book 22 = .ok (.iload_n 2, 1) := by decide +kernel
theorem dX11_book_23 : decode cX11_book 23 = .ok (.ifCond .lt 8, 3) := by decide +kernel
theorem dX11_book_26 : decode cX11_book 26 = .ok (.iload_n 2, 1) := by decide +kernel
theorem dX11_book_27 : decode cX11_book 27 = .ok (.iconst 4, 1) := by decide +kernel
theorem dX11_book_28 : decode cX11_book 28 = .ok (.if_icmp .le 9, 3) := by decide +kernel
theorem dX11_book_31 : decode cX11_book 31 = .ok (.aload_n 0, 1) := by decide +kernel
theorem dX11_book_32 : decode cX11_book 32 = .ok (.iconst 1, 1) := by decide +kernel
theorem dX11_book_33 : decode cX11_book 33 = .ok (.invokevirtual 99, 3) := by decide +kernel
theorem dX11_book_36 : decode cX11_book 36 = .ok (.ireturn, 1) := by decide +kernel
theorem dX11_book_37 : decode cX11_book 37 = .ok (.aload_n 0, 1) := by decide +kernel
theorem dX11_book_38 : decode cX11_book 38 = .ok (.aload_n 0, 1) := by decide +kernel
theorem dX11_book_39 : decode cX11_book 39 = .ok (.getfield 30, 3) := by decide +kernel
theorem dX11_book_42 : decode cX11_book 42 = .ok (.iload_n 1, 1) := by decide +kernel
theorem dX11_book_43 : decode cX11_book 43 = .ok (.iload_n 2, 1) := by decide +kernel
theorem dX11_book_44 : decode cX11_book 44 = .ok (.invokevirtual 360, 3) := by decide +kernel
theorem dX11_book_47 : decode cX11_book 47 = .ok (.invokevirtual 125, 3) := by decide +kernel
theorem dX11_book_50 : decode cX11_book 50 = .ok (.ireturn, 1) := by decide +kernel
theorem dX11_letter_0 : decode cX11_letter 0 = .ok (.aload_n 0, 1) := by decide +kernel
theorem dX11_letter_1 : decode cX11_letter 1 = .ok (.iload_n 1, 1) := by decide +kernel
theorem dX11_letter_2 : decode cX11_letter 2 = .ok (.invokevirtual 176, 3) := by decide +kernel
theorem dX11_letter_5 : decode cX11_letter 5 = .ok (.ifCond .ne 23, 3) := by decide +kernel
theorem dX11_letter_8 : decode cX11_letter 8 = .ok (.iload_n 2, 1) := by decide +kernel
theorem dX11_letter_9 : decode cX11_letter 9 = .ok (.ifCond .lt 19, 3) := by decide +kernel
theorem dX11_letter_12 : decode cX11_letter 12 = .ok (.iload_n 2, 1) := by decide +kernel
theorem dX11_letter_13 : decode cX11_letter 13 = .ok (.aload_n 0, 1) := by decide +kernel
theorem dX11_letter_14 : decode cX11_letter 14 = .ok (.getfield 83, 3) := by decide +kernel
theorem dX11_letter_17 : decode cX11_letter 17 = .ok (.getfield 363, 3) := by decide +kernel
theorem dX11_letter_20 : decode cX11_letter 20 = .ok (.iload_n 1, 1) := by decide +kernel
theorem dX11_letter_21 : decode cX11_letter 21 = .ok (.laload, 1) := by decide +kernel
theorem dX11_letter_22 : decode cX11_letter 22 = .ok (.invokestatic 367, 3) := by decide +kernel
theorem dX11_letter_25 : decode cX11_letter 25 = .ok (.if_icmp .lt 11, 3) := by decide +kernel
theorem dX11_letter_28 : decode cX11_letter 28 = .ok (.new 316, 3) := by decide +kernel
theorem dX11_letter_31 : decode cX11_letter 31 = .ok (.dup, 1) := by decide +kernel
theorem dX11_letter_32 : decode cX11_letter 32 = .ok (.invokespecial 318, 3) := by decide +kernel
theorem dX11_letter_35 : decode cX11_letter 35 = .ok (.athrow, 1) := by decide +kernel
theorem dX11_letter_36 : decode cX11_letter 36 = .ok (.aload_n 0, 1) := by decide +kernel
theorem dX11_letter_37 : decode cX11_letter 37 = .ok (.getfield 83, 3) := by decide +kernel
theorem dX11_letter_40 : decode cX11_letter 40 = .ok (.getfield 363, 3) := by decide +kernel
theorem dX11_letter_43 : decode cX11_letter 43 = .ok (.iload_n 1, 1) := by decide +kernel
theorem dX11_letter_44 : decode cX11_letter 44 = .ok (.laload, 1) := by decide +kernel
theorem dX11_letter_45 : decode cX11_letter 45 = .ok (.iload_n 2, 1) := by decide +kernel
theorem dX11_letter_46 : decode cX11_letter 46 = .ok (.invokestatic 371, 3) := by decide +kernel
theorem dX11_letter_49 : decode cX11_letter 49 = .ok (.ireturn, 1) := by decide +kernel
theorem dX11_bytes_0 : decode cX11_bytes 0 = .ok (.aload_n 0, 1) := by decide +kernel
theorem dX11_bytes_1 : decode cX11_bytes 1 = .ok (.getfield 91, 3) := by decide +kernel
theorem dX11_bytes_4 : decode cX11_bytes 4 = .ok (.ireturn, 1) := by decide +kernel
theorem dX11_trouble_0 : decode cX11_trouble 0 = .ok (.aload_n 0, 1) := by decide +kernel
theorem dX11_trouble_1 : decode cX11_trouble 1 = .ok (.getfield 128, 3) := by decide +kernel
theorem dX11_trouble_4 : decode cX11_trouble 4 = .ok (.ireturn, 1) := by decide +kernel
theorem dX11_answer_0 : decode cX11_answer 0 = .ok (.aload_n 0, 1) := by decide +kernel
theorem dX11_answer_1 : decode cX11_answer 1 = .ok (.iconst 0, 1) := by decide +kernel
theorem dX11_answer_2 : decode cX11_answer 2 = .ok (.putfield 128, 3) := by decide +kernel
theorem dX11_answer_5 : decode cX11_answer 5 = .ok (.iload_n 1, 1) := by decide +kernel
theorem dX11_answer_6 : decode cX11_answer 6 = .ok (.ireturn, 1) := by decide +kernel
theorem dX11_refuse_0 : decode cX11_refuse 0 = .ok (.aload_n 0, 1) := by decide +kernel
theorem dX11_refuse_1 : decode cX11_refuse 1 = .ok (.iload_n 1, 1) := by decide +kernel
theorem dX11_refuse_2 : decode cX11_refuse 2 = .ok (.putfield 128, 3) := by decide +kernel
theorem dX11_refuse_5 : decode cX11_refuse 5 = .ok (.iconst (-1), 1) := by decide +kernel
theorem dX11_refuse_6 : decode cX11_refuse 6 = .ok (.ireturn, 1) := by decide +kernel
theorem dX11_noService_0 : decode cX11_noService 0 = .ok (.aload_n 0, 1) := by decide +kernel
theorem dX11_noService_1 : decode cX11_noService 1 = .ok (.getfield 131, 3) := by decide +kernel
theorem dX11_noService_4 : decode cX11_noService 4 = .ok (.ifCond .eq 18, 3) := by decide +kernel
theorem dX11_noService_7 : decode cX11_noService 7 = .ok (.iload_n 1, 1) := by decide +kernel
theorem dX11_noService_8 : decode cX11_noService 8 = .ok (.ifCond .lt 14, 3) := by decide +kernel
theorem dX11_noService_11 : decode cX11_noService 11 = .ok (.iload_n 1, 1) := by decide +kernel
theorem dX11_noService_12 : decode cX11_noService 12 = .ok (.aload_n 0, 1) := by decide +kernel
theorem dX11_noService_13 : decode cX11_noService 13 = .ok (.getfield 83, 3) := by decide +kernel
theorem dX11_noService_16 : decode cX11_noService 16 = .ok (.getfield 122, 3) := by decide +kernel
theorem dX11_noService_19 : decode cX11_noService 19 = .ok (.if_icmp .lt 7, 3) := by decide +kernel
theorem dX11_noService_22 : decode cX11_noService 22 = .ok (.iconst 1, 1) := by decide +kernel
theorem dX11_noService_23 : decode cX11_noService 23 = .ok (.goto 4, 3) := by decide +kernel
theorem dX11_noService_26 : decode cX11_noService 26 = .ok (.iconst 0, 1) := by decide +kernel
theorem dX11_noService_27 : decode cX11_noService 27 = .ok (.ireturn, 1) := by decide +kernel
theorem dX11_noBuyer_0 : decode cX11_noBuyer 0 = .ok (.aload_n 0, 1) := by decide +kernel
theorem dX11_noBuyer_1 : decode cX11_noBuyer 1 = .ok (.getfield 131, 3) := by decide +kernel
theorem dX11_noBuyer_4 : decode cX11_noBuyer 4 = .ok (.ifCond .eq 18, 3) := by decide +kernel
theorem dX11_noBuyer_7 : decode cX11_noBuyer 7 = .ok (.iload_n 1, 1) := by decide +kernel
theorem dX11_noBuyer_8 : decode cX11_noBuyer 8 = .ok (.ifCond .lt 14, 3) := by decide +kernel
theorem dX11_noBuyer_11 : decode cX11_noBuyer 11 = .ok (.iload_n 1, 1) := by decide +kernel
theorem dX11_noBuyer_12 : decode cX11_noBuyer 12 = .ok (.aload_n 0, 1) := by decide +kernel
theorem dX11_noBuyer_13 : decode cX11_noBuyer 13 = .ok (.getfield 83, 3) := by decide +kernel
theorem dX11_noBuyer_16 : decode cX11_noBuyer 16 = .ok (.getfield 266, 3) := by decide +kernel
theorem dX11_noBuyer_19 : decode cX11_noBuyer 19 = .ok (.if_icmp .lt 7, 3) := by decide +kernel
theorem dX11_noBuyer_22 : decode cX11_noBuyer 22 = .ok (.iconst 1, 1) := by decide +kernel
theorem dX11_noBuyer_23 : decode cX11_noBuyer 23 = .ok (.goto 4, 3) := by decide +kernel
theorem dX11_noBuyer_26 : decode cX11_noBuyer 26 = .ok (.iconst 0, 1) := by decide +kernel
theorem dX11_noBuyer_27 : decode cX11_noBuyer 27 = .ok (.ireturn, 1) := by decide +kernel
theorem dX11_noPrice_0 : decode cX11_noPrice 0 = .ok (.iload_n 0, 1) := by decide +kernel
theorem dX11_noPrice_1 : decode cX11_noPrice 1 = .ok (.ifCond .lt 9, 3) := by decide +kernel
theorem dX11_noPrice_4 : decode cX11_noPrice 4 = .ok (.iload_n 0, 1) := by decide +kernel
theorem dX11_noPrice_5 : decode cX11_noPrice 5 = .ok (.bipush 20, 2) := by decide +kernel
theorem dX11_noPrice_7 : decode cX11_noPrice 7 = .ok (.if_icmp .le 7, 3) := by decide +kernel
theorem dX11_noPrice_10 : decode cX11_noPrice 10 = .ok (.iconst 1, 1) := by decide +kernel
theorem dX11_noPrice_11 : decode cX11_noPrice 11 = .ok (.goto 4, 3) := by decide +kernel
theorem dX11_noPrice_14 : decode cX11_noPrice 14 = .ok (.iconst 0, 1) := by decide +kernel
theorem dX11_noPrice_15 : decode cX11_noPrice 15 = .ok (.ireturn, 1) := by decide +kernel
theorem dX11_putNumber_0 : decode cX11_putNumber 0 = .ok (.bipush 24, 2) := by decide +kernel
theorem dX11_putNumber_2 : decode cX11_putNumber 2 = .ok (.istore_n 2, 1) := by decide +kernel
theorem dX11_putNumber_3 : decode cX11_putNumber 3 = .ok (.iload_n 2, 1) := by decide +kernel
theorem dX11_putNumber_4 : decode cX11_putNumber 4 = .ok (.ifCond .lt 45, 3) := by decide +kernel
theorem dX11_putNumber_7 : decode cX11_putNumber 7 = .ok (.aload_n 0, 1) := by decide +kernel
theorem dX11_putNumber_8 : decode cX11_putNumber 8 = .ok (.getfield 91, 3) := by decide +kernel
theorem dX11_putNumber_11 : decode cX11_putNumber 11 = .ok (.sipush 500, 3) := by decide +kernel
theorem dX11_putNumber_14 : decode cX11_putNumber 14 = .ok (.if_icmp .ge 35, 3) := by decide +kernel
theorem dX11_putNumber_17 : decode cX11_putNumber 17 = .ok (.aload_n 0, 1) := by decide +kernel
theorem dX11_putNumber_18 : decode cX11_putNumber 18 = .ok (.getfield 9, 3) := by decide +kernel
theorem dX11_putNumber_21 : decode cX11_putNumber 21 = .ok (.aload_n 0, 1) := by decide +kernel
theorem dX11_putNumber_22 : decode cX11_putNumber 22 = .ok (.getfield 91, 3) := by decide +kernel
theorem dX11_putNumber_25 : decode cX11_putNumber 25 = .ok (.iload_n 1, 1) := by decide +kernel
theorem dX11_putNumber_26 : decode cX11_putNumber 26 = .ok (.iload_n 2, 1) := by decide +kernel
theorem dX11_putNumber_27 : decode cX11_putNumber 27 = .ok (.iushr, 1) := by decide +kernel
theorem dX11_putNumber_28 : decode cX11_putNumber 28 = .ok (.sipush 255, 3) := by decide +kernel
theorem dX11_putNumber_31 : decode cX11_putNumber 31 = .ok (.iand, 1) := by decide +kernel
theorem dX11_putNumber_32 : decode cX11_putNumber 32 = .ok (.iastore, 1) := by decide +kernel
theorem dX11_putNumber_33 : decode cX11_putNumber 33 = .ok (.aload_n 0, 1) := by decide +kernel
theorem dX11_putNumber_34 : decode cX11_putNumber 34 = .ok (.dup, 1) := by decide +kernel
theorem dX11_putNumber_35 : decode cX11_putNumber 35 = .ok (.getfield 91, 3) := by decide +kernel
theorem dX11_putNumber_38 : decode cX11_putNumber 38 = .ok (.iconst 1, 1) := by decide +kernel
theorem dX11_putNumber_39 : decode cX11_putNumber 39 = .ok (.iadd, 1) := by decide +kernel
theorem dX11_putNumber_40 : decode cX11_putNumber 40 = .ok (.putfield 91, 3) := by decide +kernel
theorem dX11_putNumber_43 : decode cX11_putNumber 43 = .ok (.iinc 2 (-8), 3) := by decide +kernel
theorem dX11_putNumber_46 : decode cX11_putNumber 46 = .ok (.goto (-43), 3) := by decide +kernel
theorem dX11_putNumber_49 : decode cX11_putNumber 49 = .ok (.return_, 1) := by decide +kernel
theorem dX11_putWritten_0 : decode cX11_putWritten 0 = .ok (.aload_n 0, 1) := by decide +kernel
theorem dX11_putWritten_1 : decode cX11_putWritten 1 = .ok (.getfield 310, 3) := by decide +kernel
theorem dX11_putWritten_4 : decode cX11_putWritten 4 = .ok (.bipush 11, 2) := by decide +kernel
theorem dX11_putWritten_6 : decode cX11_putWritten 6 = .ok (.if_icmp .ge 23, 3) := by decide +kernel
theorem dX11_putWritten_9 : decode cX11_putWritten 9 = .ok (.aload_n 0, 1) := by decide +kernel
theorem dX11_putWritten_10 : decode cX11_putWritten 10 = .ok (.getfield 77, 3) := by decide +kernel
theorem dX11_putWritten_13 : decode cX11_putWritten 13 = .ok (.aload_n 0, 1) := by decide +kernel
theorem dX11_putWritten_14 : decode cX11_putWritten 14 = .ok (.getfield 310, 3) := by decide +kernel
theorem dX11_putWritten_17 : decode cX11_putWritten 17 = .ok (.iload_n 1, 1) := by decide +kernel
theorem dX11_putWritten_18 : decode cX11_putWritten 18 = .ok (.iastore, 1) := by decide +kernel
theorem dX11_putWritten_19 : decode cX11_putWritten 19 = .ok (.aload_n 0, 1) := by decide +kernel
theorem dX11_putWritten_20 : decode cX11_putWritten 20 = .ok (.dup, 1) := by decide +kernel
theorem dX11_putWritten_21 : decode cX11_putWritten 21 = .ok (.getfield 310, 3) := by decide +kernel
theorem dX11_putWritten_24 : decode cX11_putWritten 24 = .ok (.iconst 1, 1) := by decide +kernel
theorem dX11_putWritten_25 : decode cX11_putWritten 25 = .ok (.iadd, 1) := by decide +kernel
theorem dX11_putWritten_26 : decode cX11_putWritten 26 = .ok (.putfield 310, 3) := by decide +kernel
theorem dX11_putWritten_29 : decode cX11_putWritten 29 = .ok (.return_, 1) := by decide +kernel
theorem dX11_beginText_0 : decode cX11_beginText 0 = .ok (.aload_n 0, 1) := by decide +kernel
theorem dX11_beginText_1 : decode cX11_beginText 1 = .ok (.iconst 1, 1) := by decide +kernel
theorem dX11_beginText_2 : decode cX11_beginText 2 = .ok (.putfield 131, 3) := by decide +kernel
theorem dX11_beginText_5 : decode cX11_beginText 5 = .ok (.aload_n 0, 1) := by decide +kernel
theorem dX11_beginText_6 : decode cX11_beginText 6 = .ok (.getfield 83, 3) := by decide +kernel
theorem dX11_beginText_9 : decode cX11_beginText 9 = .ok (.invokevirtual 375, 3) := by decide +kernel
theorem dX11_beginText_12 : decode cX11_beginText 12 = .ok (.aload_n 0, 1) := by decide +kernel
theorem dX11_beginText_13 : decode cX11_beginText 13 = .ok (.getfield 23, 3) := by decide +kernel
theorem dX11_beginText_16 : decode cX11_beginText 16 = .ok (.aload_n 0, 1) := by decide +kernel
theorem dX11_beginText_17 : decode cX11_beginText 17 = .ok (.getfield 83, 3) := by decide +kernel
theorem dX11_beginText_20 : decode cX11_beginText 20 = .ok (.invokevirtual 378, 3) := by decide +kernel
theorem dX11_beginText_23 : decode cX11_beginText 23 = .ok (.aload_n 0, 1) := by decide +kernel
theorem dX11_beginText_24 : decode cX11_beginText 24 = .ok (.getfield 37, 3) := by decide +kernel
theorem dX11_beginText_27 : decode cX11_beginText 27 = .ok (.invokevirtual 357, 3) := by decide +kernel
theorem dX11_beginText_30 : decode cX11_beginText 30 = .ok (.iconst 0, 1) := by decide +kernel
theorem dX11_beginText_31 : decode cX11_beginText 31 = .ok (.istore_n 1, 1) := by decide +kernel
theorem dX11_beginText_32 : decode cX11_beginText 32 = .ok (.iload_n 1, 1) := by decide +kernel
theorem dX11_beginText_33 : decode cX11_beginText 33 = .ok (.iconst 2, 1) := by decide +kernel
theorem dX11_beginText_34 : decode cX11_beginText 34 = .ok (.if_icmp .ge 19, 3) := by decide +kernel
theorem dX11_beginText_37 : decode cX11_beginText 37 = .ok (.aload_n 0, 1) := by decide +kernel
theorem dX11_beginText_38 : decode cX11_beginText 38 = .ok (.getfield 43, 3) := by decide +kernel
theorem dX11_beginText_41 : decode cX11_beginText 41 = .ok (.iload_n 1, 1) := by decide +kernel
theorem dX11_beginText_42 : decode cX11_beginText 42 = .ok (.aaload, 1) := by decide +kernel
theorem dX11_beginText_43 : decode cX11_beginText 43 = .ok (.iconst 0, 1) := by decide +kernel
theorem dX11_beginText_44 : decode cX11_beginText 44 = .ok (.putfield 353, 3) := by decide +kernel
theorem dX11_beginText_47 : decode cX11_beginText 47 = .ok (.iinc 1 1, 3) := by decide +kernel
theorem dX11_beginText_50 : decode cX11_beginText 50 = .ok (.goto (-18), 3) := by decide +kernel
theorem dX11_beginText_53 : decode cX11_beginText 53 = .ok (.aload_n 0, 1) := by decide +kernel
theorem dX11_beginText_54 : decode cX11_beginText 54 = .ok (.invokevirtual 332, 3) := by decide +kernel
theorem dX11_beginText_57 : decode cX11_beginText 57 = .ok (.return_, 1) := by decide +kernel
theorem dX11_forgetFresh_0 : decode cX11_forgetFresh 0 = .ok (.aload_n 0, 1) := by decide +kernel
theorem dX11_forgetFresh_1 : decode cX11_forgetFresh 1 = .ok (.getfield 66, 3) := by decide +kernel
theorem dX11_forgetFresh_4 : decode cX11_forgetFresh 4 = .ok (.invokevirtual 381, 3) := by decide +kernel
theorem dX11_forgetFresh_7 : decode cX11_forgetFresh 7 = .ok (.return_, 1) := by decide +kernel
theorem dX11_forgetAll_0 : decode cX11_forgetAll 0 = .ok (.aload_n 0, 1) := by decide +kernel
theorem dX11_forgetAll_1 : decode cX11_forgetAll 1 = .ok (.getfield 59, 3) := by decide +kernel
theorem dX11_forgetAll_4 : decode cX11_forgetAll 4 = .ok (.invokevirtual 382, 3) := by decide +kernel
theorem dX11_forgetAll_7 : decode cX11_forgetAll 7 = .ok (.aload_n 0, 1) := by decide +kernel
theorem dX11_forgetAll_8 : decode cX11_forgetAll 8 = .ok (.getfield 66, 3) := by decide +kernel
theorem dX11_forgetAll_11 : decode cX11_forgetAll 11 = .ok (.invokevirtual 385, 3) := by decide +kernel
theorem dX11_forgetAll_14 : decode cX11_forgetAll 14 = .ok (.return_, 1) := by decide +kernel
theorem dX11_fromTable_0 : decode cX11_fromTable 0 = .ok (.aload_n 0, 1) := by decide +kernel
theorem dX11_fromTable_1 : decode cX11_fromTable 1 = .ok (.iload_n 2, 1) := by decide +kernel
theorem dX11_fromTable_2 : decode cX11_fromTable 2 = .ok (.invokevirtual 176, 3) := by decide +kernel
theorem dX11_fromTable_5 : decode cX11_fromTable 5 = .ok (.ifCond .eq 9, 3) := by decide +kernel
theorem dX11_fromTable_8 : decode cX11_fromTable 8 = .ok (.aload_n 0, 1) := by decide +kernel
theorem dX11_fromTable_9 : decode cX11_fromTable 9 = .ok (.iconst 1, 1) := by decide +kernel
theorem dX11_fromTable_10 : decode cX11_fromTable 10 = .ok (.invokevirtual 99, 3) := by decide +kernel
theorem dX11_fromTable_13 : decode cX11_fromTable 13 = .ok (.ireturn, 1) := by decide +kernel
theorem dX11_fromTable_14 : decode cX11_fromTable 14 = .ok (.iload_n 3, 1) := by decide +kernel
theorem dX11_fromTable_15 : decode cX11_fromTable 15 = .ok (.invokestatic 275, 3) := by decide +kernel
theorem dX11_fromTable_18 : decode cX11_fromTable 18 = .ok (.ifCond .eq 9, 3) := by decide +kernel
theorem dX11_fromTable_21 : decode cX11_fromTable 21 = .ok (.aload_n 0, 1) := by decide +kernel
theorem dX11_fromTable_22 : decode cX11_fromTable 22 = .ok (.iconst 2, 1) := by decide +kernel
theorem dX11_fromTable_23 : decode cX11_fromTable 23 = .ok (.invokevirtual 99, 3) := by decide +kernel
theorem dX11_fromTable_26 : decode cX11_fromTable 26 = .ok (.ireturn, 1) := by decide +kernel
theorem dX11_fromTable_27 : decode cX11_fromTable 27 = .ok (.aload_n 0, 1) := by decide +kernel
theorem dX11_fromTable_28 : decode cX11_fromTable 28 = .ok (.aload_n 1, 1) := by decide +kernel
theorem dX11_fromTable_29 : decode cX11_fromTable 29 = .ok (.iload_n 2, 1) := by decide +kernel
theorem dX11_fromTable_30 : decode cX11_fromTable 30 = .ok (.bipush 21, 2) := by decide +kernel
theorem dX11_fromTable_32 : decode cX11_fromTable 32 = .ok (.imul, 1) := by decide +kernel
theorem dX11_fromTable_33 : decode cX11_fromTable 33 = .ok (.iload_n 3, 1) := by decide +kernel
theorem dX11_fromTable_34 : decode cX11_fromTable 34 = .ok (.iadd, 1) := by decide +kernel
theorem dX11_fromTable_35 : decode cX11_fromTable 35 = .ok (.iaload, 1) := by decide +kernel
theorem dX11_fromTable_36 : decode cX11_fromTable 36 = .ok (.invokevirtual 125, 3) := by decide +kernel
theorem dX11_fromTable_39 : decode cX11_fromTable 39 = .ok (.ireturn, 1) := by decide +kernel
theorem dX11_worthOf_0 : decode cX11_worthOf 0 = .ok (.aload_n 1, 1) := by decide +kernel
theorem dX11_worthOf_1 : decode cX11_worthOf 1 = .ok (.ifnonnull 11, 3) := by decide +kernel
theorem dX11_worthOf_4 : decode cX11_worthOf 4 = .ok (.aload_n 0, 1) := by decide +kernel
theorem dX11_worthOf_5 : decode cX11_worthOf 5 = .ok (.iconst 1, 1) := by decide +kernel
theorem dX11_worthOf_6 : decode cX11_worthOf 6 = .ok (.invokevirtual 99, 3) := by decide +kernel
theorem dX11_worthOf_9 : decode cX11_worthOf 9 = .ok (.goto 11, 3) := by decide +kernel
theorem dX11_worthOf_12 : decode cX11_worthOf 12 = .ok (.aload_n 0, 1) := by decide +kernel
theorem dX11_worthOf_13 : decode cX11_worthOf 13 = .ok (.aload_n 1, 1) := by decide +kernel
theorem dX11_worthOf_14 : decode cX11_worthOf 14 = .ok (.getfield 287, 3) := by decide +kernel
theorem dX11_worthOf_17 : decode cX11_worthOf 17 = .ok (.invokevirtual 125, 3) := by decide +kernel
theorem dX11_worthOf_20 : decode cX11_worthOf 20 = .ok (.ireturn, 1) := by decide +kernel
theorem dX11_priceIn_0 : decode cX11_priceIn 0 = .ok (.aload_n 1, 1) := by decide +kernel
theorem dX11_priceIn_1 : decode cX11_priceIn 1 = .ok (.ifnonnull 11, 3) := by decide +kernel
theorem dX11_priceIn_4 : decode cX11_priceIn 4 = .ok (.aload_n 0, 1) := by decide +kernel
theorem dX11_priceIn_5 : decode cX11_priceIn 5 = .ok (.iconst 1, 1) := by decide +kernel
theorem dX11_priceIn_6 : decode cX11_priceIn 6 = .ok (.invokevirtual 99, 3) := by decide +kernel
theorem dX11_priceIn_9 : decode cX11_priceIn 9 = .ok (.goto 13, 3) := by decide +kernel
theorem dX11_priceIn_12 : decode cX11_priceIn 12 = .ok (.aload_n 0, 1) := by decide +kernel
theorem dX11_priceIn_13 : decode cX11_priceIn 13 = .ok (.aload_n 1, 1) := by decide +kernel
theorem dX11_priceIn_14 : decode cX11_priceIn 14 = .ok (.getfield 290, 3) := by decide +kernel
theorem dX11_priceIn_17 : decode cX11_priceIn 17 = .ok (.iload_n 2, 1) := by decide +kernel
theorem dX11_priceIn_18 : decode cX11_priceIn 18 = .ok (.iaload, 1) := by decide +kernel
theorem dX11_priceIn_19 : decode cX11_priceIn 19 = .ok (.invokevirtual 125, 3) := by decide +kernel
theorem dX11_priceIn_22 : decode cX11_priceIn 22 = .ok (.ireturn, 1) := by decide +kernel
theorem dX11_burdenMore_0 : decode cX11_burdenMore 0 = .ok (.aload_n 0, 1) := by decide +kernel
theorem dX11_burdenMore_1 : decode cX11_burdenMore 1 = .ok (.getfield 83, 3) := by decide +kernel
theorem dX11_burdenMore_4 : decode cX11_burdenMore 4 = .ok (.iload_n 1, 1) := by decide +kernel
theorem dX11_burdenMore_5 : decode cX11_burdenMore 5 = .ok (.aload_n 0, 1) := by decide +kernel
theorem dX11_burdenMore_6 : decode cX11_burdenMore 6 = .ok (.getfield 23, 3) := by decide +kernel
theorem dX11_burdenMore_9 : decode cX11_burdenMore 9 = .ok (.getfield 173, 3) := by decide +kernel
theorem dX11_burdenMore_12 : decode cX11_burdenMore 12 = .ok (.invokevirtual 256, 3) := by decide +kernel
theorem dX11_burdenMore_15 : decode cX11_burdenMore 15 = .ok (.aload_n 0, 1) := by decide +kernel
theorem dX11_burdenMore_16 : decode cX11_burdenMore 16 = .ok (.getfield 83, 3) := by decide +kernel
theorem dX11_burdenMore_19 : decode cX11_burdenMore 19 = .ok (.iload_n 1, 1) := by decide +kernel
theorem dX11_burdenMore_20 : decode cX11_burdenMore 20 = .ok (.aload_n 0, 1) := by decide +kernel
theorem dX11_burdenMore_21 : decode cX11_burdenMore 21 = .ok (.getfield 23, 3) := by decide +kernel
theorem dX11_burdenMore_24 : decode cX11_burdenMore 24 = .ok (.getfield 146, 3) := by decide +kernel
theorem dX11_burdenMore_27 : decode cX11_burdenMore 27 = .ok (.invokevirtual 256, 3) := by decide +kernel
theorem dX11_burdenMore_30 : decode cX11_burdenMore 30 = .ok (.isub, 1) := by decide +kernel
theorem dX11_burdenMore_31 : decode cX11_burdenMore 31 = .ok (.ireturn, 1) := by decide +kernel
theorem dX11_lowestTerms_0 : decode cX11_lowestTerms 0 = .ok (.iload_n 2, 1) := by decide +kernel
theorem dX11_lowestTerms_1 : decode cX11_lowestTerms 1 = .ok (.ifCond .ne 9, 3) := by decide +kernel
theorem dX11_lowestTerms_4 : decode cX11_lowestTerms 4 = .ok (.aload_n 0, 1) := by decide +kernel
theorem dX11_lowestTerms_5 : decode cX11_lowestTerms 5 = .ok (.iconst 5, 1) := by decide +kernel
theorem dX11_lowestTerms_6 : decode cX11_lowestTerms 6 = .ok (.invokevirtual 99, 3) := by decide +kernel
theorem dX11_lowestTerms_9 : decode cX11_lowestTerms 9 = .ok (.ireturn, 1) := by decide +kernel
theorem dX11_lowestTerms_10 : decode cX11_lowestTerms 10 = .ok (.iload_n 1, 1) := by decide +kernel
theorem dX11_lowestTerms_11 : decode cX11_lowestTerms 11 = .ok (.iload_n 2, 1) := by decide +kernel
theorem dX11_lowestTerms_12 : decode cX11_lowestTerms 12 = .ok (.invokestatic 386, 3) := by decide +kernel
theorem dX11_lowestTerms_15 : decode cX11_lowestTerms 15 = .ok (.istore 4, 2) := by decide +kernel
theorem dX11_lowestTerms_17 : decode cX11_lowestTerms 17 = .ok (.aload_n 0, 1) := by decide +kernel
theorem dX11_lowestTerms_18 : decode cX11_lowestTerms 18 = .ok (.iload_n 3, 1) := by decide +kernel
theorem dX11_lowestTerms_19 : decode cX11_lowestTerms 19 = .ok (.ifCond .ne 7, 3) := by decide +kernel
theorem dX11_lowestTerms_22 : decode cX11_lowestTerms 22 = .ok (.iload_n 1, 1) := by decide +kernel
theorem dX11_lowestTerms_23 : decode cX11_lowestTerms 23 = .ok (.goto 4, 3) := by decide +kernel
theorem dX11_lowestTerms_26 : decode cX11_lowestTerms 26 = .ok (.iload_n 2, 1) := by decide +kernel
theorem dX11_lowestTerms_27 : decode cX11_lowestTerms 27 = .ok (.iload 4, 2) := by decide +kernel
theorem dX11_lowestTerms_29 : decode cX11_lowestTerms 29 = .ok (.idiv, 1) := by decide +kernel
theorem dX11_lowestTerms_30 : decode cX11_lowestTerms 30 = .ok (.invokevirtual 125, 3) := by decide +kernel
theorem dX11_lowestTerms_33 : decode cX11_lowestTerms 33 = .ok (.ireturn, 1) := by decide +kernel
theorem dX11_commonDivisor_0 : decode cX11_commonDivisor 0 = .ok (.iload_n 0, 1) := by decide +kernel
theorem dX11_commonDivisor_1 : decode cX11_commonDivisor 1 = .ok (.istore_n 2, 1) := by decide +kernel
theorem dX11_commonDivisor_2 : decode cX11_commonDivisor 2 = .ok (.iload_n 1, 1) := by decide +kernel
theorem dX11_commonDivisor_3 : decode cX11_commonDivisor 3 = .ok (.istore_n 3, 1) := by decide +kernel
theorem dX11_commonDivisor_4 : decode cX11_commonDivisor 4 = .ok (.iconst 0, 1) := by decide +kernel
theorem dX11_commonDivisor_5 : decode cX11_commonDivisor 5 = .ok (.istore 4, 2) := by decide +kernel
theorem dX11_commonDivisor_7 : decode cX11_commonDivisor 7 = .ok (.iload 4, 2) := by decide +kernel
theorem dX11_commonDivisor_9 : decode cX11_commonDivisor 9 = .ok (.bipush 64, 2) := by decide +kernel
theorem dX11_commonDivisor_11 : decode cX11_commonDivisor 11 = .ok (.if_icmp .ge 23, 3) := by decide +kernel
theorem dX11_commonDivisor_14 : decode cX11_commonDivisor 14 = .ok (.iload_n 2, 1) := by decide +kernel
theorem dX11_commonDivisor_15 : decode cX11_commonDivisor 15 = .ok (.ifCond .eq 19, 3) := by decide +kernel
theorem dX11_commonDivisor_18 : decode cX11_commonDivisor 18 = .ok (.iload_n 3, 1) := by decide +kernel
theorem dX11_commonDivisor_19 : decode cX11_commonDivisor 19 = .ok (.iload_n 2, 1) := by decide +kernel
theorem dX11_commonDivisor_20 : decode cX11_commonDivisor 20 = .ok (.irem, 1) := by decide +kernel
theorem dX11_commonDivisor_21 : decode cX11_commonDivisor 21 = .ok (.istore 5, 2) := by decide +kernel
theorem dX11_commonDivisor_23 : decode cX11_commonDivisor 23 = .ok (.iload_n 2, 1) := by decide +kernel
theorem dX11_commonDivisor_24 : decode cX11_commonDivisor 24 = .ok (.istore_n 3, 1) := by decide +kernel
theorem dX11_commonDivisor_25 : decode cX11_commonDivisor 25 = .ok (.iload 5, 2) := by decide +kernel
theorem dX11_commonDivisor_27 : decode cX11_commonDivisor 27 = .ok (.istore_n 2, 1) := by decide +kernel
theorem dX11_commonDivisor_28 : decode cX11_commonDivisor 28 = .ok (.iinc 4 1, 3) := by decide +kernel
theorem dX11_commonDivisor_31 : decode cX11_commonDivisor 31 = .ok (.goto (-24), 3) := by decide +kernel
theorem dX11_commonDivisor_34 : decode cX11_commonDivisor 34 = .ok (.iload_n 3, 1) := by decide +kernel
theorem dX11_commonDivisor_35 : decode cX11_commonDivisor 35 = .ok (.iconst 1, 1) := by decide +kernel
theorem dX11_commonDivisor_36 : decode cX11_commonDivisor 36 = .ok (.invokestatic 389, 3) := by decide +kernel
theorem dX11_commonDivisor_39 : decode cX11_commonDivisor 39 = .ok (.ireturn, 1) := by decide +kernel
theorem dJ9_abs_0f7a4_0 : decode cJ9_abs_0f7a4 0 = .ok (.iload_n 0, 1) := by decide +kernel
theorem dJ9_abs_0f7a4_1 : decode cJ9_abs_0f7a4 1 = .ok (.ifCond .ge 8, 3) := by decide +kernel
theorem dJ9_abs_0f7a4_4 : decode cJ9_abs_0f7a4 4 = .ok (.iload_n 0, 1) := by decide +kernel
theorem dJ9_abs_0f7a4_5 : decode cJ9_abs_0f7a4 5 = .ok (.ineg, 1) := by decide +kernel
theorem dJ9_abs_0f7a4_6 : decode cJ9_abs_0f7a4 6 = .ok (.goto 4, 3) := by decide +kernel
theorem dJ9_abs_0f7a4_9 : decode cJ9_abs_0f7a4 9 = .ok (.iload_n 0, 1) := by decide +kernel
theorem dJ9_abs_0f7a4_10 : decode cJ9_abs_0f7a4 10 = .ok (.ireturn, 1) := by decide +kernel
theorem dJ9_max_7cf53_0 : decode cJ9_max_7cf53 0 = .ok (.iload_n 0, 1) := by decide +kernel
theorem dJ9_max_7cf53_1 : decode cJ9_max_7cf53 1 = .ok (.iload_n 1, 1) := by decide +kernel
theorem dJ9_max_7cf53_2 : decode cJ9_max_7cf53 2 = .ok (.if_icmp .lt 7, 3) := by decide +kernel
theorem dJ9_max_7cf53_5 : decode cJ9_max_7cf53 5 = .ok (.iload_n 0, 1) := by decide +kernel
theorem dJ9_max_7cf53_6 : decode cJ9_max_7cf53 6 = .ok (.goto 4, 3) := by decide +kernel
theorem dJ9_max_7cf53_9 : decode cJ9_max_7cf53 9 = .ok (.iload_n 1, 1) := by decide +kernel
theorem dJ9_max_7cf53_10 : decode cJ9_max_7cf53 10 = .ok (.ireturn, 1) := by decide +kernel
theorem dJ9_min_7cf53_0 : decode cJ9_min_7cf53 0 = .ok (.iload_n 0, 1) := by decide +kernel
theorem dJ9_min_7cf53_1 : decode cJ9_min_7cf53 1 = .ok (.iload_n 1, 1) := by decide +kernel
theorem dJ9_min_7cf53_2 : decode cJ9_min_7cf53 2 = .ok (.if_icmp .gt 7, 3) := by decide +kernel
theorem dJ9_min_7cf53_5 : decode cJ9_min_7cf53 5 = .ok (.iload_n 0, 1) := by decide +kernel
theorem dJ9_min_7cf53_6 : decode cJ9_min_7cf53 6 = .ok (.goto 4, 3) := by decide +kernel
theorem dJ9_min_7cf53_9 : decode cJ9_min_7cf53 9 = .ok (.iload_n 1, 1) := by decide +kernel
theorem dJ9_min_7cf53_10 : decode cJ9_min_7cf53 10 = .ok (.ireturn, 1) := by decide +kernel
theorem dJ0_length_8abf5_0 : decode cJ0_length_8abf5 0 = .ok (.aload_n 0, 1) := by decide +kernel
theorem dJ0_length_8abf5_1 : decode cJ0_length_8abf5 1 = .ok (.getfield 9, 3) := by decide +kernel
theorem dJ0_length_8abf5_4 : decode cJ0_length_8abf5 4 = .ok (.arraylength, 1) := by decide +kernel
theorem dJ0_length_8abf5_5 : decode cJ0_length_8abf5 5 = .ok (.aload_n 0, 1) := by decide +kernel
theorem dJ0_length_8abf5_6 : decode cJ0_length_8abf5 6 = .ok (.invokevirtual 335, 3) := by decide +kernel
theorem dJ0_length_8abf5_9 : decode cJ0_length_8abf5 9 = .ok (.ishr, 1) := by decide +kernel
theorem dJ0_length_8abf5_10 : decode cJ0_length_8abf5 10 = .ok (.ireturn, 1) := by decide +kernel
theorem dJ0_charAt_5068e_0 : decode cJ0_charAt_5068e 0 = .ok (.aload_n 0, 1) := by decide +kernel
theorem dJ0_charAt_5068e_1 : decode cJ0_charAt_5068e 1 = .ok (.invokevirtual 492, 3) := by decide +kernel
theorem dJ0_charAt_5068e_4 : decode cJ0_charAt_5068e 4 = .ok (.ifCond .eq 12, 3) := by decide +kernel
theorem dJ0_charAt_5068e_7 : decode cJ0_charAt_5068e 7 = .ok (.aload_n 0, 1) := by decide +kernel
theorem dJ0_charAt_5068e_8 : decode cJ0_charAt_5068e 8 = .ok (.getfield 9, 3) := by decide +kernel
theorem dJ0_charAt_5068e_11 : decode cJ0_charAt_5068e 11 = .ok (.iload_n 1, 1) := by decide +kernel
theorem dJ0_charAt_5068e_12 : decode cJ0_charAt_5068e 12 = .ok (.invokestatic 495, 3) := by decide +kernel
theorem dJ0_charAt_5068e_15 : decode cJ0_charAt_5068e 15 = .ok (.ireturn, 1) := by decide +kernel
theorem dJ0_charAt_5068e_16 : decode cJ0_charAt_5068e 16 = .ok (.aload_n 0, 1) := by decide +kernel
theorem dJ0_charAt_5068e_17 : decode cJ0_charAt_5068e 17 = .ok (.getfield 9, 3) := by decide +kernel
theorem dJ0_charAt_5068e_20 : decode cJ0_charAt_5068e 20 = .ok (.iload_n 1, 1) := by decide +kernel
theorem dJ0_charAt_5068e_21 : decode cJ0_charAt_5068e 21 = .ok (.invokestatic 498, 3) := by decide +kernel
theorem dJ0_charAt_5068e_24 : decode cJ0_charAt_5068e 24 = .ok (.ireturn, 1) := by decide +kernel
theorem dJ0_coder_7d493_0 : decode cJ0_coder_7d493 0 = .ok (.getstatic 38, 3) := by decide +kernel
theorem dJ0_coder_7d493_3 : decode cJ0_coder_7d493 3 = .ok (.ifCond .eq 10, 3) := by decide +kernel
theorem dJ0_coder_7d493_6 : decode cJ0_coder_7d493 6 = .ok (.aload_n 0, 1) := by decide +kernel
theorem dJ0_coder_7d493_7 : decode cJ0_coder_7d493 7 = .ok (.getfield 15, 3) := by decide +kernel
theorem dJ0_coder_7d493_10 : decode cJ0_coder_7d493 10 = .ok (.goto 4, 3) := by decide +kernel
theorem dJ0_coder_7d493_13 : decode cJ0_coder_7d493 13 = .ok (.iconst 1, 1) := by decide +kernel
theorem dJ0_coder_7d493_14 : decode cJ0_coder_7d493 14 = .ok (.ireturn, 1) := by decide +kernel
theorem dJ0_isLatin1_aae02_0 : decode cJ0_isLatin1_aae02 0 = .ok (.getstatic 38, 3) := by decide +kernel
theorem dJ0_isLatin1_aae02_3 : decode cJ0_isLatin1_aae02 3 = .ok (.ifCond .eq 14, 3) := by decide +kernel
theorem dJ0_isLatin1_aae02_6 : decode cJ0_isLatin1_aae02 6 = .ok (.aload_n 0, 1) := by decide +kernel
theorem dJ0_isLatin1_aae02_7 : decode cJ0_isLatin1_aae02 7 = .ok (.getfield 15, 3) := by decide +kernel
theorem dJ0_isLatin1_aae02_10 : decode cJ0_isLatin1_aae02 10 = .ok (.ifCond .ne 7, 3) := by decide +kernel
theorem dJ0_isLatin1_aae02_13 : decode cJ0_isLatin1_aae02 13 = .ok (.iconst 1, 1) := by decide +kernel
theorem dJ0_isLatin1_aae02_14 : decode cJ0_isLatin1_aae02 14 = .ok (.goto 4, 3) := by decide +kernel
theorem dJ0_isLatin1_aae02_17 : decode cJ0_isLatin1_aae02 17 = .ok (.iconst 0, 1) := by decide +kernel
theorem dJ0_isLatin1_aae02_18 : decode cJ0_isLatin1_aae02 18 = .ok (.ireturn, 1) := by decide +kernel
theorem dJ0_checkIndex_df160_0 : decode cJ0_checkIndex_df160 0 = .ok (.iload_n 0, 1) := by decide +kernel
theorem dJ0_checkIndex_df160_1 : decode cJ0_checkIndex_df160 1 = .ok (.iload_n 1, 1) := by decide +kernel
theorem dJ0_checkIndex_df160_2 : decode cJ0_checkIndex_df160 2 = .ok (.getstatic 1053, 3) := by decide +kernel
theorem dJ0_checkIndex_df160_5 : decode cJ0_checkIndex_df160 5 = .ok (.invokestatic 1059, 3) := by decide +kernel
theorem dJ0_checkIndex_df160_8 : decode cJ0_checkIndex_df160 8 = .ok (.pop, 1) := by decide +kernel
theorem dJ0_checkIndex_df160_9 : decode cJ0_checkIndex_df160 9 = .ok (.return_, 1) := by decide +kernel
theorem dJ1_charAt_3b067_0 : decode cJ1_charAt_3b067 0 = .ok (.iload_n 1, 1) := by decide +kernel
theorem dJ1_charAt_3b067_1 : decode cJ1_charAt_3b067 1 = .ok (.aload_n 0, 1) := by decide +kernel
theorem dJ1_charAt_3b067_2 : decode cJ1_charAt_3b067 2 = .ok (.arraylength, 1) := by decide +kernel
theorem dJ1_charAt_3b067_3 : decode cJ1_charAt_3b067 3 = .ok (.invokestatic 9, 3) := by decide +kernel
theorem dJ1_charAt_3b067_6 : decode cJ1_charAt_3b067 6 = .ok (.aload_n 0, 1) := by decide +kernel
theorem dJ1_charAt_3b067_7 : decode cJ1_charAt_3b067 7 = .ok (.iload_n 1, 1) := by decide +kernel
theorem dJ1_charAt_3b067_8 : decode cJ1_charAt_3b067 8 = .ok (.baload, 1) := by decide +kernel
theorem dJ1_charAt_3b067_9 : decode cJ1_charAt_3b067 9 = .ok (.sipush 255, 3) := by decide +kernel
theorem dJ1_charAt_3b067_12 : decode cJ1_charAt_3b067 12 = .ok (.iand, 1) := by decide +kernel
theorem dJ1_charAt_3b067_13 : decode cJ1_charAt_3b067 13 = .ok (.i2c, 1) := by decide +kernel
theorem dJ1_charAt_3b067_14 : decode cJ1_charAt_3b067 14 = .ok (.ireturn, 1) := by decide +kernel
theorem dJ2_getChar_3b067_0 : decode cJ2_getChar_3b067 0 = .ok (.getstatic 44, 3) := by decide +kernel
theorem dJ2_getChar_3b067_3 : decode cJ2_getChar_3b067 3 = .ok (.ifCond .ne 25, 3) := by decide +kernel
theorem dJ2_getChar_3b067_6 : decode cJ2_getChar_3b067 6 = .ok (.iload_n 1, 1) := by decide +kernel
theorem dJ2_getChar_3b067_7 : decode cJ2_getChar_3b067 7 = .ok (.ifCond .lt 11, 3) := by decide +kernel
theorem dJ2_getChar_3b067_10 : decode cJ2_getChar_3b067 10 = .ok (.iload_n 1, 1) := by decide +kernel
theorem dJ2_getChar_3b067_11 : decode cJ2_getChar_3b067 11 = .ok (.aload_n 0, 1) := by decide +kernel
theorem dJ2_getChar_3b067_12 : decode cJ2_getChar_3b067 12 = .ok (.invokestatic 48, 3) := by decide +kernel
theorem dJ2_getChar_3b067_15 : decode cJ2_getChar_3b067 15 = .ok (.if_icmp .lt 13, 3) := by decide +kernel
theorem dJ2_getChar_3b067_18 : decode cJ2_getChar_3b067 18 = .ok (.new 52, 3) := by decide +kernel
theorem dJ2_getChar_3b067_21 : decode cJ2_getChar_3b067 21 = .ok (.dup, 1) := by decide +kernel
theorem dJ2_getChar_3b067_22 : decode cJ2_getChar_3b067 22 = .ok (.ldc 54, 2) := by decide +kernel
theorem dJ2_getChar_3b067_24 : decode cJ2_getChar_3b067 24 = .ok (.invokespecial 56, 3) := by decide +kernel
theorem dJ2_getChar_3b067_27 : decode cJ2_getChar_3b067 27 = .ok (.athrow, 1) := by decide +kernel
theorem dJ2_getChar_3b067_28 : decode cJ2_getChar_3b067 28 = .ok (.iload_n 1, 1) := by decide +kernel
theorem dJ2_getChar_3b067_29 : decode cJ2_getChar_3b067 29 = .ok (.iconst 1, 1) := by decide +kernel
theorem dJ2_getChar_3b067_30 : decode cJ2_getChar_3b067 30 = .ok (.ishl, 1) := by decide +kernel
theorem dJ2_getChar_3b067_31 : decode cJ2_getChar_3b067 31 = .ok (.istore_n 1, 1) := by decide +kernel
theorem dJ2_getChar_3b067_32 : decode cJ2_getChar_3b067 32 = .ok (.aload_n 0, 1) := by decide +kernel
theorem dJ2_getChar_3b067_33 : decode cJ2_getChar_3b067 33 = .ok (.iload_n 1, 1) := by decide +kernel
theorem dJ2_getChar_3b067_34 : decode cJ2_getChar_3b067 34 = .ok (.iinc 1 1, 3) := by decide +kernel
theorem dJ2_getChar_3b067_37 : decode cJ2_getChar_3b067 37 = .ok (.baload, 1) := by decide +kernel
theorem dJ2_getChar_3b067_38 : decode cJ2_getChar_3b067 38 = .ok (.sipush 255, 3) := by decide +kernel
theorem dJ2_getChar_3b067_41 : decode cJ2_getChar_3b067 41 = .ok (.iand, 1) := by decide +kernel
theorem dJ2_getChar_3b067_42 : decode cJ2_getChar_3b067 42 = .ok (.getstatic 59, 3) := by decide +kernel
theorem dJ2_getChar_3b067_45 : decode cJ2_getChar_3b067 45 = .ok (.ishl, 1) := by decide +kernel
theorem dJ2_getChar_3b067_46 : decode cJ2_getChar_3b067 46 = .ok (.aload_n 0, 1) := by decide +kernel
theorem dJ2_getChar_3b067_47 : decode cJ2_getChar_3b067 47 = .ok (.iload_n 1, 1) := by decide +kernel
theorem dJ2_getChar_3b067_48 : decode cJ2_getChar_3b067 48 = .ok (.baload, 1) := by decide +kernel
theorem dJ2_getChar_3b067_49 : decode cJ2_getChar_3b067 49 = .ok (.sipush 255, 3) := by decide +kernel
theorem dJ2_getChar_3b067_52 : decode cJ2_getChar_3b067 52 = .ok (.iand, 1) := by decide +kernel
theorem dJ2_getChar_3b067_53 : decode cJ2_getChar_3b067 53 = .ok (.getstatic 63, 3) := by decide +kernel
theorem dJ2_getChar_3b067_56 : decode cJ2_getChar_3b067 56 = .ok (.ishl, 1) := by decide +kernel
theorem dJ2_getChar_3b067_57 : decode cJ2_getChar_3b067 57 = .ok (.ior, 1) := by decide +kernel
theorem dJ2_getChar_3b067_58 : decode cJ2_getChar_3b067 58 = .ok (.i2c, 1) := by decide +kernel
theorem dJ2_getChar_3b067_59 : decode cJ2_getChar_3b067 59 = .ok (.ireturn, 1) := by decide +kernel
theorem dJ2_length_9d52b_0 : decode cJ2_length_9d52b 0 = .ok (.aload_n 0, 1) := by decide +kernel
theorem dJ2_length_9d52b_1 : decode cJ2_length_9d52b 1 = .ok (.arraylength, 1) := by decide +kernel
theorem dJ2_length_9d52b_2 : decode cJ2_length_9d52b 2 = .ok (.iconst 1, 1) := by decide +kernel
theorem dJ2_length_9d52b_3 : decode cJ2_length_9d52b 3 = .ok (.ishr, 1) := by decide +kernel
theorem dJ2_length_9d52b_4 : decode cJ2_length_9d52b 4 = .ok (.ireturn, 1) := by decide +kernel
theorem dJ2_charAt_3b067_0 : decode cJ2_charAt_3b067 0 = .ok (.iload_n 1, 1) := by decide +kernel
theorem dJ2_charAt_3b067_1 : decode cJ2_charAt_3b067 1 = .ok (.aload_n 0, 1) := by decide +kernel
theorem dJ2_charAt_3b067_2 : decode cJ2_charAt_3b067 2 = .ok (.invokestatic 67, 3) := by decide +kernel
theorem dJ2_charAt_3b067_5 : decode cJ2_charAt_3b067 5 = .ok (.aload_n 0, 1) := by decide +kernel
theorem dJ2_charAt_3b067_6 : decode cJ2_charAt_3b067 6 = .ok (.iload_n 1, 1) := by decide +kernel
theorem dJ2_charAt_3b067_7 : decode cJ2_charAt_3b067 7 = .ok (.invokestatic 71, 3) := by decide +kernel
theorem dJ2_charAt_3b067_10 : decode cJ2_charAt_3b067 10 = .ok (.ireturn, 1) := by decide +kernel
theorem dJ2_checkIndex_2214a_0 : decode cJ2_checkIndex_2214a 0 = .ok (.iload_n 0, 1) := by decide +kernel
theorem dJ2_checkIndex_2214a_1 : decode cJ2_checkIndex_2214a 1 = .ok (.aload_n 1, 1) := by decide +kernel
theorem dJ2_checkIndex_2214a_2 : decode cJ2_checkIndex_2214a 2 = .ok (.invokestatic 48, 3) := by decide +kernel
theorem dJ2_checkIndex_2214a_5 : decode cJ2_checkIndex_2214a 5 = .ok (.invokestatic 414, 3) := by decide +kernel
theorem dJ2_checkIndex_2214a_8 : decode cJ2_checkIndex_2214a 8 = .ok (.return_, 1) := by decide +kernel
theorem dJ3_checkIndex_8e157_0 : decode cJ3_checkIndex_8e157 0 = .ok (.iload_n 0, 1) := by decide +kernel
theorem dJ3_checkIndex_8e157_1 : decode cJ3_checkIndex_8e157 1 = .ok (.ifCond .lt 8, 3) := by decide +kernel
theorem dJ3_checkIndex_8e157_4 : decode cJ3_checkIndex_8e157 4 = .ok (.iload_n 0, 1) := by decide +kernel
theorem dJ3_checkIndex_8e157_5 : decode cJ3_checkIndex_8e157 5 = .ok (.iload_n 1, 1) := by decide +kernel
theorem dJ3_checkIndex_8e157_6 : decode cJ3_checkIndex_8e157 6 = .ok (.if_icmp .lt 10, 3) := by decide +kernel
theorem dJ3_checkIndex_8e157_9 : decode cJ3_checkIndex_8e157 9 = .ok (.aload_n 2, 1) := by decide +kernel
theorem dJ3_checkIndex_8e157_10 : decode cJ3_checkIndex_8e157 10 = .ok (.iload_n 0, 1) := by decide +kernel
theorem dJ3_checkIndex_8e157_11 : decode cJ3_checkIndex_8e157 11 = .ok (.iload_n 1, 1) := by decide +kernel
theorem dJ3_checkIndex_8e157_12 : decode cJ3_checkIndex_8e157 12 = .ok (.invokestatic 95, 3) := by decide +kernel
theorem dJ3_checkIndex_8e157_15 : decode cJ3_checkIndex_8e157 15 = .ok (.athrow, 1) := by decide +kernel
theorem dJ3_checkIndex_8e157_16 : decode cJ3_checkIndex_8e157 16 = .ok (.iload_n 0, 1) := by decide +kernel
theorem dJ3_checkIndex_8e157_17 : decode cJ3_checkIndex_8e157 17 = .ok (.ireturn, 1) := by decide +kernel
