theorem dX0_init_0 : decode cX0_init 0 = .ok (.aload_n 0, 1) := by decide +kernel
theorem dX0_init_1 : decode cX0_init 1 = .ok (.invokespecial 3, 3) := by decide +kernel
theorem dX0_init_4 : decode cX0_init 4 = .ok (.aload_n 0, 1) := by decide +kernel
theorem dX0_init_5 : decode cX0_init 5 = .ok (.iconst 5, 1) := by decide +kernel
theorem dX0_init_6 : decode cX0_init 6 = .ok (.newarray .int, 2) := by decide +kernel
theorem dX0_init_8 : decode cX0_init 8 = .ok (.putfield 11, 3) := by decide +kernel
theorem dX0_init_11 : decode cX0_init 11 = .ok (.aload_n 0, 1) := by decide +kernel
theorem dX0_init_12 : decode cX0_init 12 = .ok (.iconst 5, 1) := by decide +kernel
theorem dX0_init_13 : decode cX0_init 13 = .ok (.newarray .int, 2) := by decide +kernel
theorem dX0_init_15 : decode cX0_init 15 = .ok (.putfield 15, 3) := by decide +kernel
theorem dX0_init_18 : decode cX0_init 18 = .ok (.aload_n 0, 1) := by decide +kernel
theorem dX0_init_19 : decode cX0_init 19 = .ok (.iconst 5, 1) := by decide +kernel
theorem dX0_init_20 : decode cX0_init 20 = .ok (.newarray .int, 2) := by decide +kernel
theorem dX0_init_22 : decode cX0_init 22 = .ok (.putfield 18, 3) := by decide +kernel
theorem dX0_init_25 : decode cX0_init 25 = .ok (.aload_n 0, 1) := by decide +kernel
theorem dX0_init_26 : decode cX0_init 26 = .ok (.aload_n 1, 1) := by decide +kernel
theorem dX0_init_27 : decode cX0_init 27 = .ok (.putfield 21, 3) := by decide +kernel
theorem dX0_init_30 : decode cX0_init 30 = .ok (.return_, 1) := by decide +kernel
theorem dX0_change_0 : decode cX0_change 0 = .ok (.iload_n 3, 1) := by decide +kernel
theorem dX0_change_1 : decode cX0_change 1 = .ok (.ifCond .lt 9, 3) := by decide +kernel
theorem dX0_change_4 : decode cX0_change 4 = .ok (.iload_n 3, 1) := by decide +kernel
theorem dX0_change_5 : decode cX0_change 5 = .ok (.ldc 25, 2) := by decide +kernel
theorem dX0_change_7 : decode cX0_change 7 = .ok (.if_icmp .le 5, 3) := by decide +kernel
theorem dX0_change_10 : decode cX0_change 10 = .ok (.iconst 0, 1) := by decide +kernel
theorem dX0_change_11 : decode cX0_change 11 = .ok (.ireturn, 1) := by decide +kernel
theorem dX0_change_12 : decode cX0_change 12 = .ok (.iload_n 3, 1) := by decide +kernel
theorem dX0_change_13 : decode cX0_change 13 = .ok (.sipush 10000, 3) := by decide +kernel
theorem dX0_change_16 : decode cX0_change 16 = .ok (.idiv, 1) := by decide +kernel
theorem dX0_change_17 : decode cX0_change 17 = .ok (.istore 4, 2) := by decide +kernel
theorem dX0_change_19 : decode cX0_change 19 = .ok (.iload_n 3, 1) := by decide +kernel
theorem dX0_change_20 : decode cX0_change 20 = .ok (.sipush 1000, 3) := by decide +kernel
theorem dX0_change_23 : decode cX0_change 23 = .ok (.idiv, 1) := by decide +kernel
theorem dX0_change_24 : decode cX0_change 24 = .ok (.bipush 10, 2) := by decide +kernel
theorem dX0_change_26 : decode cX0_change 26 = .ok (.irem, 1) := by decide +kernel
theorem dX0_change_27 : decode cX0_change 27 = .ok (.istore 5, 2) := by decide +kernel
theorem dX0_change_29 : decode cX0_change 29 = .ok (.iload_n 3, 1) := by decide +kernel
theorem dX0_change_30 : decode cX0_change 30 = .ok (.bipush 100, 2) := by decide +kernel
theorem dX0_change_32 : decode cX0_change 32 = .ok (.idiv, 1) := by decide +kernel
theorem dX0_change_33 : decode cX0_change 33 = .ok (.bipush 10, 2) := by decide +kernel
theorem dX0_change_35 : decode cX0_change 35 = .ok (.irem, 1) := by decide +kernel
theorem dX0_change_36 : decode cX0_change 36 = .ok (.istore 6, 2) := by decide +kernel
theorem dX0_change_38 : decode cX0_change 38 = .ok (.iload_n 3, 1) := by decide +kernel
theorem dX0_change_39 : decode cX0_change 39 = .ok (.bipush 10, 2) := by decide +kernel
theorem dX0_change_41 : decode cX0_change 41 = .ok (.idiv, 1) := by decide +kernel
theorem dX0_change_42 : decode cX0_change 42 = .ok (.bipush 10, 2) := by decide +kernel
theorem dX0_change_44 : decode cX0_change 44 = .ok (.irem, 1) := by decide +kernel
theorem dX0_change_45 : decode cX0_change 45 = .ok (.istore 7, 2) := by decide +kernel
theorem dX0_change_47 : decode cX0_change 47 = .ok (.iload_n 3, 1) := by decide +kernel
theorem dX0_change_48 : decode cX0_change 48 = .ok (.bipush 10, 2) := by decide +kernel
theorem dX0_change_50 : decode cX0_change 50 = .ok (.irem, 1) := by decide +kernel
theorem dX0_change_51 : decode cX0_change 51 = .ok (.istore 8, 2) := by decide +kernel
theorem dX0_change_53 : decode cX0_change 53 = .ok (.iconst 1, 1) := by decide +kernel
theorem dX0_change_54 : decode cX0_change 54 = .ok (.iload 4, 2) := by decide +kernel
theorem dX0_change_56 : decode cX0_change 56 = .ok (.ishl, 1) := by decide +kernel
theorem dX0_change_57 : decode cX0_change 57 = .ok (.iconst 1, 1) := by decide +kernel
theorem dX0_change_58 : decode cX0_change 58 = .ok (.iload 5, 2) := by decide +kernel
theorem dX0_change_60 : decode cX0_change 60 = .ok (.ishl, 1) := by decide +kernel
theorem dX0_change_61 : decode cX0_change 61 = .ok (.ior, 1) := by decide +kernel
theorem dX0_change_62 : decode cX0_change 62 = .ok (.iconst 1, 1) := by decide +kernel
theorem dX0_change_63 : decode cX0_change 63 = .ok (.iload 6, 2) := by decide +kernel
theorem dX0_change_65 : decode cX0_change 65 = .ok (.ishl, 1) := by decide +kernel
theorem dX0_change_66 : decode cX0_change 66 = .ok (.ior, 1) := by decide +kernel
theorem dX0_change_67 : decode cX0_change 67 = .ok (.iconst 1, 1) := by decide +kernel
theorem dX0_change_68 : decode cX0_change 68 = .ok (.iload 7, 2) := by decide +kernel
theorem dX0_change_70 : decode cX0_change 70 = .ok (.ishl, 1) := by decide +kernel
theorem dX0_change_71 : decode cX0_change 71 = .ok (.ior, 1) := by decide +kernel
theorem dX0_change_72 : decode cX0_change 72 = .ok (.iconst 1, 1) := by decide +kernel
theorem dX0_change_73 : decode cX0_change 73 = .ok (.iload 8, 2) := by decide +kernel
theorem dX0_change_75 : decode cX0_change 75 = .ok (.ishl, 1) := by decide +kernel
theorem dX0_change_76 : decode cX0_change 76 = .ok (.ior, 1) := by decide +kernel
theorem dX0_change_77 : decode cX0_change 77 = .ok (.istore 9, 2) := by decide +kernel
theorem dX0_change_79 : decode cX0_change 79 = .ok (.iload 9, 2) := by decide +kernel
theorem dX0_change_81 : decode cX0_change 81 = .ok (.bipush 31, 2) := by decide +kernel
theorem dX0_change_83 : decode cX0_change 83 = .ok (.if_icmp .eq 5, 3) := by decide +kernel
theorem dX0_change_86 : decode cX0_change 86 = .ok (.iconst 0, 1) := by decide +kernel
theorem dX0_change_87 : decode cX0_change 87 = .ok (.ireturn, 1) := by decide +kernel
theorem dX0_change_88 : decode cX0_change 88 = .ok (.aload_n 0, 1) := by decide +kernel
theorem dX0_change_89 : decode cX0_change 89 = .ok (.getfield 21, 3) := by decide +kernel
theorem dX0_change_92 : decode cX0_change 92 = .ok (.iconst 5, 1) := by decide +kernel
theorem dX0_change_93 : decode cX0_change 93 = .ok (.iload_n 1, 1) := by decide +kernel
theorem dX0_change_94 : decode cX0_change 94 = .ok (.imul, 1) := by decide +kernel
theorem dX0_change_95 : decode cX0_change 95 = .ok (.iload_n 2, 1) := by decide +kernel
theorem dX0_change_96 : decode cX0_change 96 = .ok (.iadd, 1) := by decide +kernel
theorem dX0_change_97 : decode cX0_change 97 = .ok (.iload 4, 2) := by decide +kernel
theorem dX0_change_99 : decode cX0_change 99 = .ok (.iload 5, 2) := by decide +kernel
theorem dX0_change_101 : decode cX0_change 101 = .ok (.iload 6, 2) := by decide +kernel
theorem dX0_change_103 : decode cX0_change 103 = .ok (.iload 7, 2) := by decide +kernel
theorem dX0_change_105 : decode cX0_change 105 = .ok (.iload 8, 2) := by decide +kernel
theorem dX0_change_107 : decode cX0_change 107 = .ok (.invokevirtual 26, 3) := by decide +kernel
theorem dX0_change_110 : decode cX0_change 110 = .ok (.iconst 1, 1) := by decide +kernel
theorem dX0_change_111 : decode cX0_change 111 = .ok (.ireturn, 1) := by decide +kernel
theorem dX0_rank_0 : decode cX0_rank 0 = .ok (.iconst 0, 1) := by decide +kernel
theorem dX0_rank_1 : decode cX0_rank 1 = .ok (.istore 4, 2) := by decide +kernel
theorem dX0_rank_3 : decode cX0_rank 3 = .ok (.iload 4, 2) := by decide +kernel
theorem dX0_rank_5 : decode cX0_rank 5 = .ok (.iconst 5, 1) := by decide +kernel
theorem dX0_rank_6 : decode cX0_rank 6 = .ok (.if_icmp .ge 30, 3) := by decide +kernel
theorem dX0_rank_9 : decode cX0_rank 9 = .ok (.aload_n 0, 1) := by decide +kernel
theorem dX0_rank_10 : decode cX0_rank 10 = .ok (.getfield 21, 3) := by decide +kernel
theorem dX0_rank_13 : decode cX0_rank 13 = .ok (.iconst 5, 1) := by decide +kernel
theorem dX0_rank_14 : decode cX0_rank 14 = .ok (.iload_n 1, 1) := by decide +kernel
theorem dX0_rank_15 : decode cX0_rank 15 = .ok (.imul, 1) := by decide +kernel
theorem dX0_rank_16 : decode cX0_rank 16 = .ok (.iload_n 2, 1) := by decide +kernel
theorem dX0_rank_17 : decode cX0_rank 17 = .ok (.iadd, 1) := by decide +kernel
theorem dX0_rank_18 : decode cX0_rank 18 = .ok (.iload 4, 2) := by decide +kernel
theorem dX0_rank_20 : decode cX0_rank 20 = .ok (.invokevirtual 32, 3) := by decide +kernel
theorem dX0_rank_23 : decode cX0_rank 23 = .ok (.iload_n 3, 1) := by decide +kernel
theorem dX0_rank_24 : decode cX0_rank 24 = .ok (.if_icmp .ne 6, 3) := by decide +kernel
theorem dX0_rank_27 : decode cX0_rank 27 = .ok (.iload 4, 2) := by decide +kernel
theorem dX0_rank_29 : decode cX0_rank 29 = .ok (.ireturn, 1) := by decide +kernel
theorem dX0_rank_30 : decode cX0_rank 30 = .ok (.iinc 4 1, 3) := by decide +kernel
theorem dX0_rank_33 : decode cX0_rank 33 = .ok (.goto (-30), 3) := by decide +kernel
theorem dX0_rank_36 : decode cX0_rank 36 = .ok (.iconst 5, 1) := by decide +kernel
theorem dX0_rank_37 : decode cX0_rank 37 = .ok (.ireturn, 1) := by decide +kernel
theorem dX0_prefers_0 : decode cX0_prefers 0 = .ok (.aload_n 0, 1) := by decide +kernel
theorem dX0_prefers_1 : decode cX0_prefers 1 = .ok (.iload_n 1, 1) := by decide +kernel
theorem dX0_prefers_2 : decode cX0_prefers 2 = .ok (.iload_n 2, 1) := by decide +kernel
theorem dX0_prefers_3 : decode cX0_prefers 3 = .ok (.iload_n 3, 1) := by decide +kernel
theorem dX0_prefers_4 : decode cX0_prefers 4 = .ok (.invokevirtual 36, 3) := by decide +kernel
theorem dX0_prefers_7 : decode cX0_prefers 7 = .ok (.aload_n 0, 1) := by decide +kernel
theorem dX0_prefers_8 : decode cX0_prefers 8 = .ok (.iload_n 1, 1) := by decide +kernel
theorem dX0_prefers_9 : decode cX0_prefers 9 = .ok (.iload_n 2, 1) := by decide +kernel
theorem dX0_prefers_10 : decode cX0_prefers 10 = .ok (.iload 4, 2) := by decide +kernel
theorem dX0_prefers_12 : decode cX0_prefers 12 = .ok (.invokevirtual 36, 3) := by decide +kernel
theorem dX0_prefers_15 : decode cX0_prefers 15 = .ok (.if_icmp .ge 7, 3) := by decide +kernel
theorem dX0_prefers_18 : decode cX0_prefers 18 = .ok (.iconst 1, 1) := by decide +kernel
theorem dX0_prefers_19 : decode cX0_prefers 19 = .ok (.goto 4, 3) := by decide +kernel
theorem dX0_prefers_22 : decode cX0_prefers 22 = .ok (.iconst 0, 1) := by decide +kernel
theorem dX0_prefers_23 : decode cX0_prefers 23 = .ok (.ireturn, 1) := by decide +kernel
theorem dX0_partner_0 : decode cX0_partner 0 = .ok (.aload_n 0, 1) := by decide +kernel
theorem dX0_partner_1 : decode cX0_partner 1 = .ok (.iload_n 3, 1) := by decide +kernel
theorem dX0_partner_2 : decode cX0_partner 2 = .ok (.invokevirtual 40, 3) := by decide +kernel
theorem dX0_partner_5 : decode cX0_partner 5 = .ok (.iconst 0, 1) := by decide +kernel
theorem dX0_partner_6 : decode cX0_partner 6 = .ok (.istore 4, 2) := by decide +kernel
theorem dX0_partner_8 : decode cX0_partner 8 = .ok (.iload 4, 2) := by decide +kernel
theorem dX0_partner_10 : decode cX0_partner 10 = .ok (.iconst 5, 1) := by decide +kernel
theorem dX0_partner_11 : decode cX0_partner 11 = .ok (.if_icmp .ge 47, 3) := by decide +kernel
theorem dX0_partner_14 : decode cX0_partner 14 = .ok (.iload_n 1, 1) := by decide +kernel
theorem dX0_partner_15 : decode cX0_partner 15 = .ok (.iload_n 3, 1) := by decide +kernel
theorem dX0_partner_16 : decode cX0_partner 16 = .ok (.if_icmp .ne 17, 3) := by decide +kernel
theorem dX0_partner_19 : decode cX0_partner 19 = .ok (.aload_n 0, 1) := by decide +kernel
theorem dX0_partner_20 : decode cX0_partner 20 = .ok (.getfield 15, 3) := by decide +kernel
theorem dX0_partner_23 : decode cX0_partner 23 = .ok (.iload 4, 2) := by decide +kernel
theorem dX0_partner_25 : decode cX0_partner 25 = .ok (.iaload, 1) := by decide +kernel
theorem dX0_partner_26 : decode cX0_partner 26 = .ok (.iload_n 2, 1) := by decide +kernel
theorem dX0_partner_27 : decode cX0_partner 27 = .ok (.if_icmp .ne 6, 3) := by decide +kernel
theorem dX0_partner_30 : decode cX0_partner 30 = .ok (.iload 4, 2) := by decide +kernel
theorem dX0_partner_32 : decode cX0_partner 32 = .ok (.ireturn, 1) := by decide +kernel
theorem dX0_partner_33 : decode cX0_partner 33 = .ok (.iload_n 1, 1) := by decide +kernel
theorem dX0_partner_34 : decode cX0_partner 34 = .ok (.iload_n 3, 1) := by decide +kernel
theorem dX0_partner_35 : decode cX0_partner 35 = .ok (.if_icmp .eq 17, 3) := by decide +kernel
theorem dX0_partner_38 : decode cX0_partner 38 = .ok (.iload 4, 2) := by decide +kernel
theorem dX0_partner_40 : decode cX0_partner 40 = .ok (.iload_n 2, 1) := by decide +kernel
theorem dX0_partner_41 : decode cX0_partner 41 = .ok (.if_icmp .ne 11, 3) := by decide +kernel
theorem dX0_partner_44 : decode cX0_partner 44 = .ok (.aload_n 0, 1) := by decide +kernel
theorem dX0_partner_45 : decode cX0_partner 45 = .ok (.getfield 15, 3) := by decide +kernel
theorem dX0_partner_48 : decode cX0_partner 48 = .ok (.iload 4, 2) := by decide +kernel
theorem dX0_partner_50 : decode cX0_partner 50 = .ok (.iaload, 1) := by decide +kernel
theorem dX0_partner_51 : decode cX0_partner 51 = .ok (.ireturn, 1) := by decide +kernel
theorem dX0_partner_52 : decode cX0_partner 52 = .ok (.iinc 4 1, 3) := by decide +kernel
theorem dX0_partner_55 : decode cX0_partner 55 = .ok (.goto (-47), 3) := by decide +kernel
theorem dX0_partner_58 : decode cX0_partner 58 = .ok (.iconst (-1), 1) := by decide +kernel
theorem dX0_partner_59 : decode cX0_partner 59 = .ok (.ireturn, 1) := by decide +kernel
theorem dX0_engage_0 : decode cX0_engage 0 = .ok (.aload_n 0, 1) := by decide +kernel
theorem dX0_engage_1 : decode cX0_engage 1 = .ok (.getfield 11, 3) := by decide +kernel
theorem dX0_engage_4 : decode cX0_engage 4 = .ok (.iconst 0, 1) := by decide +kernel
theorem dX0_engage_5 : decode cX0_engage 5 = .ok (.invokestatic 44, 3) := by decide +kernel
theorem dX0_engage_8 : decode cX0_engage 8 = .ok (.aload_n 0, 1) := by decide +kernel
theorem dX0_engage_9 : decode cX0_engage 9 = .ok (.getfield 15, 3) := by decide +kernel
theorem dX0_engage_12 : decode cX0_engage 12 = .ok (.iconst (-1), 1) := by decide +kernel
theorem dX0_engage_13 : decode cX0_engage 13 = .ok (.invokestatic 44, 3) := by decide +kernel
theorem dX0_engage_16 : decode cX0_engage 16 = .ok (.iconst 0, 1) := by decide +kernel
theorem dX0_engage_17 : decode cX0_engage 17 = .ok (.istore_n 2, 1) := by decide +kernel
theorem dX0_engage_18 : decode cX0_engage 18 = .ok (.iload_n 2, 1) := by decide +kernel
theorem dX0_engage_19 : decode cX0_engage 19 = .ok (.iconst 5, 1) := by decide +kernel
theorem dX0_engage_20 : decode cX0_engage 20 = .ok (.if_icmp .ge 39, 3) := by decide +kernel
theorem dX0_engage_23 : decode cX0_engage 23 = .ok (.iload_n 2, 1) := by decide +kernel
theorem dX0_engage_24 : decode cX0_engage 24 = .ok (.istore_n 3, 1) := by decide +kernel
theorem dX0_engage_25 : decode cX0_engage 25 = .ok (.iconst 0, 1) := by decide +kernel
theorem dX0_engage_26 : decode cX0_engage 26 = .ok (.istore 4, 2) := by decide +kernel
theorem dX0_engage_28 : decode cX0_engage 28 = .ok (.iload 4, 2) := by decide +kernel
theorem dX0_engage_30 : decode cX0_engage 30 = .ok (.bipush 25, 2) := by decide +kernel
theorem dX0_engage_32 : decode cX0_engage 32 = .ok (.if_icmp .ge 21, 3) := by decide +kernel
theorem dX0_engage_35 : decode cX0_engage 35 = .ok (.iload_n 3, 1) := by decide +kernel
theorem dX0_engage_36 : decode cX0_engage 36 = .ok (.iconst (-1), 1) := by decide +kernel
theorem dX0_engage_37 : decode cX0_engage 37 = .ok (.if_icmp .eq 16, 3) := by decide +kernel
theorem dX0_engage_40 : decode cX0_engage 40 = .ok (.aload_n 0, 1) := by decide +kernel
theorem dX0_engage_41 : decode cX0_engage 41 = .ok (.iload_n 1, 1) := by decide +kernel
theorem dX0_engage_42 : decode cX0_engage 42 = .ok (.iload_n 3, 1) := by decide +kernel
theorem dX0_engage_43 : decode cX0_engage 43 = .ok (.invokevirtual 50, 3) := by decide +kernel
theorem dX0_engage_46 : decode cX0_engage 46 = .ok (.istore_n 3, 1) := by decide +kernel
theorem dX0_engage_47 : decode cX0_engage 47 = .ok (.iinc 4 1, 3) := by decide +kernel
theorem dX0_engage_50 : decode cX0_engage 50 = .ok (.goto (-22), 3) := by decide +kernel
theorem dX0_engage_53 : decode cX0_engage 53 = .ok (.iinc 2 1, 3) := by decide +kernel
theorem dX0_engage_56 : decode cX0_engage 56 = .ok (.goto (-38), 3) := by decide +kernel
theorem dX0_engage_59 : decode cX0_engage 59 = .ok (.return_, 1) := by decide +kernel
theorem dX0_ask_0 : decode cX0_ask 0 = .ok (.aload_n 0, 1) := by decide +kernel
theorem dX0_ask_1 : decode cX0_ask 1 = .ok (.getfield 21, 3) := by decide +kernel
theorem dX0_ask_4 : decode cX0_ask 4 = .ok (.iconst 5, 1) := by decide +kernel
theorem dX0_ask_5 : decode cX0_ask 5 = .ok (.iload_n 1, 1) := by decide +kernel
theorem dX0_ask_6 : decode cX0_ask 6 = .ok (.imul, 1) := by decide +kernel
theorem dX0_ask_7 : decode cX0_ask 7 = .ok (.iload_n 2, 1) := by decide +kernel
theorem dX0_ask_8 : decode cX0_ask 8 = .ok (.iadd, 1) := by decide +kernel
theorem dX0_ask_9 : decode cX0_ask 9 = .ok (.aload_n 0, 1) := by decide +kernel
theorem dX0_ask_10 : decode cX0_ask 10 = .ok (.getfield 11, 3) := by decide +kernel
theorem dX0_ask_13 : decode cX0_ask 13 = .ok (.iload_n 2, 1) := by decide +kernel
theorem dX0_ask_14 : decode cX0_ask 14 = .ok (.iaload, 1) := by decide +kernel
theorem dX0_ask_15 : decode cX0_ask 15 = .ok (.invokevirtual 32, 3) := by decide +kernel
theorem dX0_ask_18 : decode cX0_ask 18 = .ok (.istore_n 3, 1) := by decide +kernel
theorem dX0_ask_19 : decode cX0_ask 19 = .ok (.iload_n 3, 1) := by decide +kernel
theorem dX0_ask_20 : decode cX0_ask 20 = .ok (.iconst 0, 1) := by decide +kernel
theorem dX0_ask_21 : decode cX0_ask 21 = .ok (.iconst 4, 1) := by decide +kernel
theorem dX0_ask_22 : decode cX0_ask 22 = .ok (.invokestatic 53, 3) := by decide +kernel
theorem dX0_ask_25 : decode cX0_ask 25 = .ok (.ifCond .ne 5, 3) := by decide +kernel
theorem dX0_ask_28 : decode cX0_ask 28 = .ok (.iconst (-1), 1) := by decide +kernel
theorem dX0_ask_29 : decode cX0_ask 29 = .ok (.ireturn, 1) := by decide +kernel
theorem dX0_ask_30 : decode cX0_ask 30 = .ok (.aload_n 0, 1) := by decide +kernel
theorem dX0_ask_31 : decode cX0_ask 31 = .ok (.getfield 11, 3) := by decide +kernel
theorem dX0_ask_34 : decode cX0_ask 34 = .ok (.iload_n 2, 1) := by decide +kernel
theorem dX0_ask_35 : decode cX0_ask 35 = .ok (.dup2, 1) := by decide +kernel
theorem dX0_ask_36 : decode cX0_ask 36 = .ok (.iaload, 1) := by decide +kernel
theorem dX0_ask_37 : decode cX0_ask 37 = .ok (.iconst 1, 1) := by decide +kernel
theorem dX0_ask_38 : decode cX0_ask 38 = .ok (.iadd, 1) := by decide +kernel
theorem dX0_ask_39 : decode cX0_ask 39 = .ok (.iastore, 1) := by decide +kernel
theorem dX0_ask_40 : decode cX0_ask 40 = .ok (.aload_n 0, 1) := by decide +kernel
theorem dX0_ask_41 : decode cX0_ask 41 = .ok (.getfield 15, 3) := by decide +kernel
theorem dX0_ask_44 : decode cX0_ask 44 = .ok (.iload_n 3, 1) := by decide +kernel
theorem dX0_ask_45 : decode cX0_ask 45 = .ok (.iaload, 1) := by decide +kernel
theorem dX0_ask_46 : decode cX0_ask 46 = .ok (.istore 4, 2) := by decide +kernel
theorem dX0_ask_48 : decode cX0_ask 48 = .ok (.iload 4, 2) := by decide +kernel
theorem dX0_ask_50 : decode cX0_ask 50 = .ok (.iconst (-1), 1) := by decide +kernel
theorem dX0_ask_51 : decode cX0_ask 51 = .ok (.if_icmp .eq 19, 3) := by decide +kernel
theorem dX0_ask_54 : decode cX0_ask 54 = .ok (.aload_n 0, 1) := by decide +kernel
theorem dX0_ask_55 : decode cX0_ask 55 = .ok (.iconst 1, 1) := by decide +kernel
theorem dX0_ask_56 : decode cX0_ask 56 = .ok (.iload_n 1, 1) := by decide +kernel
theorem dX0_ask_57 : decode cX0_ask 57 = .ok (.isub, 1) := by decide +kernel
theorem dX0_ask_58 : decode cX0_ask 58 = .ok (.iload_n 3, 1) := by decide +kernel
theorem dX0_ask_59 : decode cX0_ask 59 = .ok (.iload 4, 2) := by decide +kernel
theorem dX0_ask_61 : decode cX0_ask 61 = .ok (.iload_n 2, 1) := by decide +kernel
theorem dX0_ask_62 : decode cX0_ask 62 = .ok (.invokevirtual 57, 3) := by decide +kernel
theorem dX0_ask_65 : decode cX0_ask 65 = .ok (.ifCond .eq 5, 3) := by decide +kernel
theorem dX0_ask_68 : decode cX0_ask 68 = .ok (.iload_n 2, 1) := by decide +kernel
theorem dX0_ask_69 : decode cX0_ask 69 = .ok (.ireturn, 1) := by decide +kernel
theorem dX0_ask_70 : decode cX0_ask 70 = .ok (.aload_n 0, 1) := by decide +kernel
theorem dX0_ask_71 : decode cX0_ask 71 = .ok (.getfield 15, 3) := by decide +kernel
theorem dX0_ask_74 : decode cX0_ask 74 = .ok (.iload_n 3, 1) := by decide +kernel
theorem dX0_ask_75 : decode cX0_ask 75 = .ok (.iload_n 2, 1) := by decide +kernel
theorem dX0_ask_76 : decode cX0_ask 76 = .ok (.iastore, 1) := by decide +kernel
theorem dX0_ask_77 : decode cX0_ask 77 = .ok (.iload 4, 2) := by decide +kernel
theorem dX0_ask_79 : decode cX0_ask 79 = .ok (.ireturn, 1) := by decide +kernel
theorem dX0_settled_0 : decode cX0_settled 0 = .ok (.iconst 0, 1) := by decide +kernel
theorem dX0_settled_1 : decode cX0_settled 1 = .ok (.istore_n 1, 1) := by decide +kernel
theorem dX0_settled_2 : decode cX0_settled 2 = .ok (.iconst 0, 1) := by decide +kernel
theorem dX0_settled_3 : decode cX0_settled 3 = .ok (.istore_n 2, 1) := by decide +kernel
theorem dX0_settled_4 : decode cX0_settled 4 = .ok (.iload_n 2, 1) := by decide +kernel
theorem dX0_settled_5 : decode cX0_settled 5 = .ok (.bipush 120, 2) := by decide +kernel
theorem dX0_settled_7 : decode cX0_settled 7 = .ok (.if_icmp .ge 24, 3) := by decide +kernel
theorem dX0_settled_10 : decode cX0_settled 10 = .ok (.aload_n 0, 1) := by decide +kernel
theorem dX0_settled_11 : decode cX0_settled 11 = .ok (.iload_n 2, 1) := by decide +kernel
theorem dX0_settled_12 : decode cX0_settled 12 = .ok (.invokevirtual 61, 3) := by decide +kernel
theorem dX0_settled_15 : decode cX0_settled 15 = .ok (.aload_n 0, 1) := by decide +kernel
theorem dX0_settled_16 : decode cX0_settled 16 = .ok (.invokevirtual 64, 3) := by decide +kernel
theorem dX0_settled_19 : decode cX0_settled 19 = .ok (.ifCond .eq 6, 3) := by decide +kernel
theorem dX0_settled_22 : decode cX0_settled 22 = .ok (.iinc 1 1, 3) := by decide +kernel
theorem dX0_settled_25 : decode cX0_settled 25 = .ok (.iinc 2 1, 3) := by decide +kernel
theorem dX0_settled_28 : decode cX0_settled 28 = .ok (.goto (-24), 3) := by decide +kernel
theorem dX0_settled_31 : decode cX0_settled 31 = .ok (.iload_n 1, 1) := by decide +kernel
theorem dX0_settled_32 : decode cX0_settled 32 = .ok (.ireturn, 1) := by decide +kernel
theorem dX0_pairUp_0 : decode cX0_pairUp 0 = .ok (.iconst 0, 1) := by decide +kernel
theorem dX0_pairUp_1 : decode cX0_pairUp 1 = .ok (.istore_n 2, 1) := by decide +kernel
theorem dX0_pairUp_2 : decode cX0_pairUp 2 = .ok (.iload_n 1, 1) := by decide +kernel
theorem dX0_pairUp_3 : decode cX0_pairUp 3 = .ok (.istore_n 3, 1) := by decide +kernel
theorem dX0_pairUp_4 : decode cX0_pairUp 4 = .ok (.iconst 0, 1) := by decide +kernel
theorem dX0_pairUp_5 : decode cX0_pairUp 5 = .ok (.istore 4, 2) := by decide +kernel
theorem dX0_pairUp_7 : decode cX0_pairUp 7 = .ok (.iload 4, 2) := by decide +kernel
theorem dX0_pairUp_9 : decode cX0_pairUp 9 = .ok (.iconst 5, 1) := by decide +kernel
theorem dX0_pairUp_10 : decode cX0_pairUp 10 = .ok (.if_icmp .ge 45, 3) := by decide +kernel
theorem dX0_pairUp_13 : decode cX0_pairUp 13 = .ok (.aload_n 0, 1) := by decide +kernel
theorem dX0_pairUp_14 : decode cX0_pairUp 14 = .ok (.getfield 18, 3) := by decide +kernel
theorem dX0_pairUp_17 : decode cX0_pairUp 17 = .ok (.iload 4, 2) := by decide +kernel
theorem dX0_pairUp_19 : decode cX0_pairUp 19 = .ok (.iload_n 2, 1) := by decide +kernel
theorem dX0_pairUp_20 : decode cX0_pairUp 20 = .ok (.iload_n 3, 1) := by decide +kernel
theorem dX0_pairUp_21 : decode cX0_pairUp 21 = .ok (.iconst 5, 1) := by decide +kernel
theorem dX0_pairUp_22 : decode cX0_pairUp 22 = .ok (.iload 4, 2) := by decide +kernel
theorem dX0_pairUp_24 : decode cX0_pairUp 24 = .ok (.isub, 1) := by decide +kernel
theorem dX0_pairUp_25 : decode cX0_pairUp 25 = .ok (.irem, 1) := by decide +kernel
theorem dX0_pairUp_26 : decode cX0_pairUp 26 = .ok (.invokestatic 68, 3) := by decide +kernel
theorem dX0_pairUp_29 : decode cX0_pairUp 29 = .ok (.iastore, 1) := by decide +kernel
theorem dX0_pairUp_30 : decode cX0_pairUp 30 = .ok (.iload_n 2, 1) := by decide +kernel
theorem dX0_pairUp_31 : decode cX0_pairUp 31 = .ok (.iconst 1, 1) := by decide +kernel
theorem dX0_pairUp_32 : decode cX0_pairUp 32 = .ok (.aload_n 0, 1) := by decide +kernel
theorem dX0_pairUp_33 : decode cX0_pairUp 33 = .ok (.getfield 18, 3) := by decide +kernel
theorem dX0_pairUp_36 : decode cX0_pairUp 36 = .ok (.iload 4, 2) := by decide +kernel
theorem dX0_pairUp_38 : decode cX0_pairUp 38 = .ok (.iaload, 1) := by decide +kernel
theorem dX0_pairUp_39 : decode cX0_pairUp 39 = .ok (.ishl, 1) := by decide +kernel
theorem dX0_pairUp_40 : decode cX0_pairUp 40 = .ok (.ior, 1) := by decide +kernel
theorem dX0_pairUp_41 : decode cX0_pairUp 41 = .ok (.istore_n 2, 1) := by decide +kernel
theorem dX0_pairUp_42 : decode cX0_pairUp 42 = .ok (.iload_n 3, 1) := by decide +kernel
theorem dX0_pairUp_43 : decode cX0_pairUp 43 = .ok (.iconst 5, 1) := by decide +kernel
theorem dX0_pairUp_44 : decode cX0_pairUp 44 = .ok (.iload 4, 2) := by decide +kernel
theorem dX0_pairUp_46 : decode cX0_pairUp 46 = .ok (.isub, 1) := by decide +kernel
theorem dX0_pairUp_47 : decode cX0_pairUp 47 = .ok (.idiv, 1) := by decide +kernel
theorem dX0_pairUp_48 : decode cX0_pairUp 48 = .ok (.istore_n 3, 1) := by decide +kernel
theorem dX0_pairUp_49 : decode cX0_pairUp 49 = .ok (.iinc 4 1, 3) := by decide +kernel
theorem dX0_pairUp_52 : decode cX0_pairUp 52 = .ok (.goto (-45), 3) := by decide +kernel
theorem dX0_pairUp_55 : decode cX0_pairUp 55 = .ok (.return_, 1) := by decide +kernel
theorem dX0_freeOne_0 : decode cX0_freeOne 0 = .ok (.iload_n 1, 1) := by decide +kernel
theorem dX0_freeOne_1 : decode cX0_freeOne 1 = .ok (.istore_n 2, 1) := by decide +kernel
theorem dX0_freeOne_2 : decode cX0_freeOne 2 = .ok (.iconst 0, 1) := by decide +kernel
theorem dX0_freeOne_3 : decode cX0_freeOne 3 = .ok (.istore_n 3, 1) := by decide +kernel
theorem dX0_freeOne_4 : decode cX0_freeOne 4 = .ok (.iload_n 3, 1) := by decide +kernel
theorem dX0_freeOne_5 : decode cX0_freeOne 5 = .ok (.iconst 5, 1) := by decide +kernel
theorem dX0_freeOne_6 : decode cX0_freeOne 6 = .ok (.if_icmp .ge 30, 3) := by decide +kernel
theorem dX0_freeOne_9 : decode cX0_freeOne 9 = .ok (.iload_n 0, 1) := by decide +kernel
theorem dX0_freeOne_10 : decode cX0_freeOne 10 = .ok (.iload_n 3, 1) := by decide +kernel
theorem dX0_freeOne_11 : decode cX0_freeOne 11 = .ok (.ishr, 1) := by decide +kernel
theorem dX0_freeOne_12 : decode cX0_freeOne 12 = .ok (.iconst 1, 1) := by decide +kernel
theorem dX0_freeOne_13 : decode cX0_freeOne 13 = .ok (.iand, 1) := by decide +kernel
theorem dX0_freeOne_14 : decode cX0_freeOne 14 = .ok (.iconst 1, 1) := by decide +kernel
theorem dX0_freeOne_15 : decode cX0_freeOne 15 = .ok (.if_icmp .ne 6, 3) := by decide +kernel
theorem dX0_freeOne_18 : decode cX0_freeOne 18 = .ok (.goto 12, 3) := by decide +kernel
theorem dX0_freeOne_21 : decode cX0_freeOne 21 = .ok (.iload_n 2, 1) := by decide +kernel
theorem dX0_freeOne_22 : decode cX0_freeOne 22 = .ok (.ifCond .ne 5, 3) := by decide +kernel
theorem dX0_freeOne_25 : decode cX0_freeOne 25 = .ok (.iload_n 3, 1) := by decide +kernel
theorem dX0_freeOne_26 : decode cX0_freeOne 26 = .ok (.ireturn, 1) := by decide +kernel
theorem dX0_freeOne_27 : decode cX0_freeOne 27 = .ok (.iinc 2 (-1), 3) := by decide +kernel
theorem dX0_freeOne_30 : decode cX0_freeOne 30 = .ok (.iinc 3 1, 3) := by decide +kernel
theorem dX0_freeOne_33 : decode cX0_freeOne 33 = .ok (.goto (-29), 3) := by decide +kernel
theorem dX0_freeOne_36 : decode cX0_freeOne 36 = .ok (.iconst 0, 1) := by decide +kernel
theorem dX0_freeOne_37 : decode cX0_freeOne 37 = .ok (.ireturn, 1) := by decide +kernel
theorem dX0_isSettled_0 : decode cX0_isSettled 0 = .ok (.iconst 0, 1) := by decide +kernel
theorem dX0_isSettled_1 : decode cX0_isSettled 1 = .ok (.istore_n 1, 1) := by decide +kernel
theorem dX0_isSettled_2 : decode cX0_isSettled 2 = .ok (.iload_n 1, 1) := by decide +kernel
theorem dX0_isSettled_3 : decode cX0_isSettled 3 = .ok (.iconst 5, 1) := by decide +kernel
theorem dX0_isSettled_4 : decode cX0_isSettled 4 = .ok (.if_icmp .ge 66, 3) := by decide +kernel
theorem dX0_isSettled_7 : decode cX0_isSettled 7 = .ok (.iconst 0, 1) := by decide +kernel
theorem dX0_isSettled_8 : decode cX0_isSettled 8 = .ok (.istore_n 2, 1) := by decide +kernel
theorem dX0_isSettled_9 : decode cX0_isSettled 9 = .ok (.iload_n 2, 1) := by decide +kernel
theorem dX0_isSettled_10 : decode cX0_isSettled 10 = .ok (.iconst 5, 1) := by decide +kernel
theorem dX0_isSettled_11 : decode cX0_isSettled 11 = .ok (.if_icmp .ge 53, 3) := by decide +kernel
theorem dX0_isSettled_14 : decode cX0_isSettled 14 = .ok (.iload_n 1, 1) := by decide +kernel
theorem dX0_isSettled_15 : decode cX0_isSettled 15 = .ok (.iload_n 2, 1) := by decide +kernel
theorem dX0_isSettled_16 : decode cX0_isSettled 16 = .ok (.if_icmp .eq 42, 3) := by decide +kernel
theorem dX0_isSettled_19 : decode cX0_isSettled 19 = .ok (.aload_n 0, 1) := by decide +kernel
theorem dX0_isSettled_20 : decode cX0_isSettled 20 = .ok (.iconst 0, 1) := by decide +kernel
theorem dX0_isSettled_21 : decode cX0_isSettled 21 = .ok (.iload_n 1, 1) := by decide +kernel
theorem dX0_isSettled_22 : decode cX0_isSettled 22 = .ok (.aload_n 0, 1) := by decide +kernel
theorem dX0_isSettled_23 : decode cX0_isSettled 23 = .ok (.getfield 18, 3) := by decide +kernel
theorem dX0_isSettled_26 : decode cX0_isSettled 26 = .ok (.iload_n 2, 1) := by decide +kernel
theorem dX0_isSettled_27 : decode cX0_isSettled 27 = .ok (.iaload, 1) := by decide +kernel
theorem dX0_isSettled_28 : decode cX0_isSettled 28 = .ok (.aload_n 0, 1) := by decide +kernel
theorem dX0_isSettled_29 : decode cX0_isSettled 29 = .ok (.getfield 18, 3) := by decide +kernel
theorem dX0_isSettled_32 : decode cX0_isSettled 32 = .ok (.iload_n 1, 1) := by decide +kernel
theorem dX0_isSettled_33 : decode cX0_isSettled 33 = .ok (.iaload, 1) := by decide +kernel
theorem dX0_isSettled_34 : decode cX0_isSettled 34 = .ok (.invokevirtual 57, 3) := by decide +kernel
theorem dX0_isSettled_37 : decode cX0_isSettled 37 = .ok (.ifCond .eq 21, 3) := by decide +kernel
theorem dX0_isSettled_40 : decode cX0_isSettled 40 = .ok (.aload_n 0, 1) := by decide +kernel
theorem dX0_isSettled_41 : decode cX0_isSettled 41 = .ok (.iconst 1, 1) := by decide +kernel
theorem dX0_isSettled_42 : decode cX0_isSettled 42 = .ok (.aload_n 0, 1) := by decide +kernel
theorem dX0_isSettled_43 : decode cX0_isSettled 43 = .ok (.getfield 18, 3) := by decide +kernel
theorem dX0_isSettled_46 : decode cX0_isSettled 46 = .ok (.iload_n 2, 1) := by decide +kernel
theorem dX0_isSettled_47 : decode cX0_isSettled 47 = .ok (.iaload, 1) := by decide +kernel
theorem dX0_isSettled_48 : decode cX0_isSettled 48 = .ok (.iload_n 1, 1) := by decide +kernel
theorem dX0_isSettled_49 : decode cX0_isSettled 49 = .ok (.iload_n 2, 1) := by decide +kernel
theorem dX0_isSettled_50 : decode cX0_isSettled 50 = .ok (.invokevirtual 57, 3) := by decide +kernel
theorem dX0_isSettled_53 : decode cX0_isSettled 53 = .ok (.ifCond .eq 5, 3) := by decide +kernel
theorem dX0_isSettled_56 : decode cX0_isSettled 56 = .ok (.iconst 0, 1) := by decide +kernel
theorem dX0_isSettled_57 : decode cX0_isSettled 57 = .ok (.ireturn, 1) := by decide +kernel
theorem dX0_isSettled_58 : decode cX0_isSettled 58 = .ok (.iinc 2 1, 3) := by decide +kernel
theorem dX0_isSettled_61 : decode cX0_isSettled 61 = .ok (.goto (-52), 3) := by decide +kernel
theorem dX0_isSettled_64 : decode cX0_isSettled 64 = .ok (.iinc 1 1, 3) := by decide +kernel
theorem dX0_isSettled_67 : decode cX0_isSettled 67 = .ok (.goto (-65), 3) := by decide +kernel
theorem dX0_isSettled_70 : decode cX0_isSettled 70 = .ok (.iconst 1, 1) := by decide +kernel
theorem dX0_isSettled_71 : decode cX0_isSettled 71 = .ok (.ireturn, 1) := by decide +kernel
theorem dX1_init_0 : decode cX1_init 0 = .ok (.aload_n 0, 1) := by decide +kernel
theorem dX1_init_1 : decode cX1_init 1 = .ok (.invokespecial 3, 3) := by decide +kernel
theorem dX1_init_4 : decode cX1_init 4 = .ok (.aload_n 0, 1) := by decide +kernel
theorem dX1_init_5 : decode cX1_init 5 = .ok (.iconst 0, 1) := by decide +kernel
theorem dX1_init_6 : decode cX1_init 6 = .ok (.putfield 9, 3) := by decide +kernel
theorem dX1_init_9 : decode cX1_init 9 = .ok (.aload_n 0, 1) := by decide +kernel
theorem dX1_init_10 : decode cX1_init 10 = .ok (.aload_n 1, 1) := by decide +kernel
theorem dX1_init_11 : decode cX1_init 11 = .ok (.putfield 15, 3) := by decide +kernel
theorem dX1_init_14 : decode cX1_init 14 = .ok (.aload_n 0, 1) := by decide +kernel
theorem dX1_init_15 : decode cX1_init 15 = .ok (.aload_n 2, 1) := by decide +kernel
theorem dX1_init_16 : decode cX1_init 16 = .ok (.putfield 19, 3) := by decide +kernel
theorem dX1_init_19 : decode cX1_init 19 = .ok (.aload_n 0, 1) := by decide +kernel
theorem dX1_init_20 : decode cX1_init 20 = .ok (.aload_n 3, 1) := by decide +kernel
theorem dX1_init_21 : decode cX1_init 21 = .ok (.putfield 23, 3) := by decide +kernel
theorem dX1_init_24 : decode cX1_init 24 = .ok (.aload_n 0, 1) := by decide +kernel
theorem dX1_init_25 : decode cX1_init 25 = .ok (.aload 4, 2) := by decide +kernel
theorem dX1_init_27 : decode cX1_init 27 = .ok (.putfield 27, 3) := by decide +kernel
theorem dX1_init_30 : decode cX1_init 30 = .ok (.return_, 1) := by decide +kernel
theorem dX1_pass_0 : decode cX1_pass 0 = .ok (.aload_n 0, 1) := by decide +kernel
theorem dX1_pass_1 : decode cX1_pass 1 = .ok (.iload_n 1, 1) := by decide +kernel
theorem dX1_pass_2 : decode cX1_pass 2 = .ok (.putfield 9, 3) := by decide +kernel
theorem dX1_pass_5 : decode cX1_pass 5 = .ok (.aload_n 0, 1) := by decide +kernel
theorem dX1_pass_6 : decode cX1_pass 6 = .ok (.getfield 15, 3) := by decide +kernel
theorem dX1_pass_9 : decode cX1_pass 9 = .ok (.getfield 31, 3) := by decide +kernel
theorem dX1_pass_12 : decode cX1_pass 12 = .ok (.ifCond .ne 7, 3) := by decide +kernel
theorem dX1_pass_15 : decode cX1_pass 15 = .ok (.aload_n 0, 1) := by decide +kernel
theorem dX1_pass_16 : decode cX1_pass 16 = .ok (.invokevirtual 37, 3) := by decide +kernel
theorem dX1_pass_19 : decode cX1_pass 19 = .ok (.aload_n 0, 1) := by decide +kernel
theorem dX1_pass_20 : decode cX1_pass 20 = .ok (.invokevirtual 40, 3) := by decide +kernel
theorem dX1_pass_23 : decode cX1_pass 23 = .ok (.aload_n 0, 1) := by decide +kernel
theorem dX1_pass_24 : decode cX1_pass 24 = .ok (.invokevirtual 43, 3) := by decide +kernel
theorem dX1_pass_27 : decode cX1_pass 27 = .ok (.iconst 0, 1) := by decide +kernel
theorem dX1_pass_28 : decode cX1_pass 28 = .ok (.istore_n 2, 1) := by decide +kernel
theorem dX1_pass_29 : decode cX1_pass 29 = .ok (.iconst 0, 1) := by decide +kernel
theorem dX1_pass_30 : decode cX1_pass 30 = .ok (.istore_n 3, 1) := by decide +kernel
theorem dX1_pass_31 : decode cX1_pass 31 = .ok (.iload_n 3, 1) := by decide +kernel
theorem dX1_pass_32 : decode cX1_pass 32 = .ok (.aload_n 0, 1) := by decide +kernel
theorem dX1_pass_33 : decode cX1_pass 33 = .ok (.getfield 15, 3) := by decide +kernel
theorem dX1_pass_36 : decode cX1_pass 36 = .ok (.getfield 46, 3) := by decide +kernel
theorem dX1_pass_39 : decode cX1_pass 39 = .ok (.if_icmp .ge 20, 3) := by decide +kernel
theorem dX1_pass_42 : decode cX1_pass 42 = .ok (.aload_n 0, 1) := by decide +kernel
theorem dX1_pass_43 : decode cX1_pass 43 = .ok (.iload_n 3, 1) := by decide +kernel
theorem dX1_pass_44 : decode cX1_pass 44 = .ok (.invokevirtual 49, 3) := by decide +kernel
theorem dX1_pass_47 : decode cX1_pass 47 = .ok (.ifCond .eq 6, 3) := by decide +kernel
theorem dX1_pass_50 : decode cX1_pass 50 = .ok (.iinc 2 1, 3) := by decide +kernel
theorem dX1_pass_53 : decode cX1_pass 53 = .ok (.iinc 3 1, 3) := by decide +kernel
theorem dX1_pass_56 : decode cX1_pass 56 = .ok (.goto (-25), 3) := by decide +kernel
theorem dX1_pass_59 : decode cX1_pass 59 = .ok (.aload_n 0, 1) := by decide +kernel
theorem dX1_pass_60 : decode cX1_pass 60 = .ok (.invokevirtual 53, 3) := by decide +kernel
theorem dX1_pass_63 : decode cX1_pass 63 = .ok (.aload_n 0, 1) := by decide +kernel
theorem dX1_pass_64 : decode cX1_pass 64 = .ok (.invokevirtual 56, 3) := by decide +kernel
theorem dX1_pass_67 : decode cX1_pass 67 = .ok (.aload_n 0, 1) := by decide +kernel
theorem dX1_pass_68 : decode cX1_pass 68 = .ok (.invokevirtual 59, 3) := by decide +kernel
theorem dX1_pass_71 : decode cX1_pass 71 = .ok (.aload_n 0, 1) := by decide +kernel
theorem dX1_pass_72 : decode cX1_pass 72 = .ok (.invokevirtual 62, 3) := by decide +kernel
theorem dX1_pass_75 : decode cX1_pass 75 = .ok (.aload_n 0, 1) := by decide +kernel
theorem dX1_pass_76 : decode cX1_pass 76 = .ok (.iconst 0, 1) := by decide +kernel
theorem dX1_pass_77 : decode cX1_pass 77 = .ok (.putfield 9, 3) := by decide +kernel
theorem dX1_pass_80 : decode cX1_pass 80 = .ok (.iload_n 2, 1) := by decide +kernel
theorem dX1_pass_81 : decode cX1_pass 81 = .ok (.ireturn, 1) := by decide +kernel
theorem dX1_takeSeat_0 : decode cX1_takeSeat 0 = .ok (.aload_n 0, 1) := by decide +kernel
theorem dX1_takeSeat_1 : decode cX1_takeSeat 1 = .ok (.getfield 15, 3) := by decide +kernel
theorem dX1_takeSeat_4 : decode cX1_takeSeat 4 = .ok (.iload_n 1, 1) := by decide +kernel
theorem dX1_takeSeat_5 : decode cX1_takeSeat 5 = .ok (.iload_n 2, 1) := by decide +kernel
theorem dX1_takeSeat_6 : decode cX1_takeSeat 6 = .ok (.iload_n 3, 1) := by decide +kernel
theorem dX1_takeSeat_7 : decode cX1_takeSeat 7 = .ok (.invokevirtual 65, 3) := by decide +kernel
theorem dX1_takeSeat_10 : decode cX1_takeSeat 10 = .ok (.aload_n 0, 1) := by decide +kernel
theorem dX1_takeSeat_11 : decode cX1_takeSeat 11 = .ok (.iconst 0, 1) := by decide +kernel
theorem dX1_takeSeat_12 : decode cX1_takeSeat 12 = .ok (.iload_n 1, 1) := by decide +kernel
theorem dX1_takeSeat_13 : decode cX1_takeSeat 13 = .ok (.iload_n 2, 1) := by decide +kernel
theorem dX1_takeSeat_14 : decode cX1_takeSeat 14 = .ok (.invokevirtual 69, 3) := by decide +kernel
theorem dX1_takeSeat_17 : decode cX1_takeSeat 17 = .ok (.return_, 1) := by decide +kernel
theorem dX1_sweepPorch_0 : decode cX1_sweepPorch 0 = .ok (.aload_n 0, 1) := by decide +kernel
theorem dX1_sweepPorch_1 : decode cX1_sweepPorch 1 = .ok (.getfield 15, 3) := by decide +kernel
theorem dX1_sweepPorch_4 : decode cX1_sweepPorch 4 = .ok (.iload_n 1, 1) := by decide +kernel
theorem dX1_sweepPorch_5 : decode cX1_sweepPorch 5 = .ok (.invokevirtual 72, 3) := by decide +kernel
theorem dX1_sweepPorch_8 : decode cX1_sweepPorch 8 = .ok (.ifCond .ne 4, 3) := by decide +kernel
theorem dX1_sweepPorch_11 : decode cX1_sweepPorch 11 = .ok (.return_, 1) := by decide +kernel
theorem dX1_sweepPorch_12 : decode cX1_sweepPorch 12 = .ok (.aload_n 0, 1) := by decide +kernel
theorem dX1_sweepPorch_13 : decode cX1_sweepPorch 13 = .ok (.iconst 4, 1) := by decide +kernel
theorem dX1_sweepPorch_14 : decode cX1_sweepPorch 14 = .ok (.iload_n 1, 1) := by decide +kernel
theorem dX1_sweepPorch_15 : decode cX1_sweepPorch 15 = .ok (.aload_n 0, 1) := by decide +kernel
theorem dX1_sweepPorch_16 : decode cX1_sweepPorch 16 = .ok (.getfield 15, 3) := by decide +kernel
theorem dX1_sweepPorch_19 : decode cX1_sweepPorch 19 = .ok (.getfield 75, 3) := by decide +kernel
theorem dX1_sweepPorch_22 : decode cX1_sweepPorch 22 = .ok (.iload_n 1, 1) := by decide +kernel
theorem dX1_sweepPorch_23 : decode cX1_sweepPorch 23 = .ok (.iaload, 1) := by decide +kernel
theorem dX1_sweepPorch_24 : decode cX1_sweepPorch 24 = .ok (.invokevirtual 69, 3) := by decide +kernel
theorem dX1_sweepPorch_27 : decode cX1_sweepPorch 27 = .ok (.aload_n 0, 1) := by decide +kernel
theorem dX1_sweepPorch_28 : decode cX1_sweepPorch 28 = .ok (.getfield 15, 3) := by decide +kernel
theorem dX1_sweepPorch_31 : decode cX1_sweepPorch 31 = .ok (.getfield 75, 3) := by decide +kernel
theorem dX1_sweepPorch_34 : decode cX1_sweepPorch 34 = .ok (.iload_n 1, 1) := by decide +kernel
theorem dX1_sweepPorch_35 : decode cX1_sweepPorch 35 = .ok (.iconst 0, 1) := by decide +kernel
theorem dX1_sweepPorch_36 : decode cX1_sweepPorch 36 = .ok (.iastore, 1) := by decide +kernel
theorem dX1_sweepPorch_37 : decode cX1_sweepPorch 37 = .ok (.aload_n 0, 1) := by decide +kernel
theorem dX1_sweepPorch_38 : decode cX1_sweepPorch 38 = .ok (.getfield 15, 3) := by decide +kernel
theorem dX1_sweepPorch_41 : decode cX1_sweepPorch 41 = .ok (.dup, 1) := by decide +kernel
theorem dX1_sweepPorch_42 : decode cX1_sweepPorch 42 = .ok (.getfield 79, 3) := by decide +kernel
theorem dX1_sweepPorch_45 : decode cX1_sweepPorch 45 = .ok (.iconst 1, 1) := by decide +kernel
theorem dX1_sweepPorch_46 : decode cX1_sweepPorch 46 = .ok (.iadd, 1) := by decide +kernel
theorem dX1_sweepPorch_47 : decode cX1_sweepPorch 47 = .ok (.putfield 79, 3) := by decide +kernel
theorem dX1_sweepPorch_50 : decode cX1_sweepPorch 50 = .ok (.return_, 1) := by decide +kernel
theorem dX1_write_0 : decode cX1_write 0 = .ok (.aload_n 0, 1) := by decide +kernel
theorem dX1_write_1 : decode cX1_write 1 = .ok (.getfield 9, 3) := by decide +kernel
theorem dX1_write_4 : decode cX1_write 4 = .ok (.ifCond .ne 28, 3) := by decide +kernel
theorem dX1_write_7 : decode cX1_write 7 = .ok (.aload_n 0, 1) := by decide +kernel
theorem dX1_write_8 : decode cX1_write 8 = .ok (.getfield 27, 3) := by decide +kernel
theorem dX1_write_11 : decode cX1_write 11 = .ok (.aload_n 0, 1) := by decide +kernel
theorem dX1_write_12 : decode cX1_write 12 = .ok (.getfield 15, 3) := by decide +kernel
theorem dX1_write_15 : decode cX1_write 15 = .ok (.getfield 82, 3) := by decide +kernel
theorem dX1_write_18 : decode cX1_write 18 = .ok (.aload_n 0, 1) := by decide +kernel
theorem dX1_write_19 : decode cX1_write 19 = .ok (.getfield 15, 3) := by decide +kernel
theorem dX1_write_22 : decode cX1_write 22 = .ok (.getfield 31, 3) := by decide +kernel
theorem dX1_write_25 : decode cX1_write 25 = .ok (.iload_n 1, 1) := by decide +kernel
theorem dX1_write_26 : decode cX1_write 26 = .ok (.iload_n 2, 1) := by decide +kernel
theorem dX1_write_27 : decode cX1_write 27 = .ok (.iload_n 3, 1) := by decide +kernel
theorem dX1_write_28 : decode cX1_write 28 = .ok (.invokevirtual 85, 3) := by decide +kernel
theorem dX1_write_31 : decode cX1_write 31 = .ok (.pop, 1) := by decide +kernel
theorem dX1_write_32 : decode cX1_write 32 = .ok (.return_, 1) := by decide +kernel
theorem dX1_happens_0 : decode cX1_happens 0 = .ok (.iload_n 1, 1) := by decide +kernel
theorem dX1_happens_1 : decode cX1_happens 1 = .ok (.ifCond .gt 5, 3) := by decide +kernel
theorem dX1_happens_4 : decode cX1_happens 4 = .ok (.iconst 0, 1) := by decide +kernel
theorem dX1_happens_5 : decode cX1_happens 5 = .ok (.ireturn, 1) := by decide +kernel
theorem dX1_happens_6 : decode cX1_happens 6 = .ok (.aload_n 0, 1) := by decide +kernel
theorem dX1_happens_7 : decode cX1_happens 7 = .ok (.getfield 9, 3) := by decide +kernel
theorem dX1_happens_10 : decode cX1_happens 10 = .ok (.ifCond .eq 18, 3) := by decide +kernel
theorem dX1_happens_13 : decode cX1_happens 13 = .ok (.iload_n 1, 1) := by decide +kernel
theorem dX1_happens_14 : decode cX1_happens 14 = .ok (.sipush 500, 3) := by decide +kernel
theorem dX1_happens_17 : decode cX1_happens 17 = .ok (.if_icmp .lt 7, 3) := by decide +kernel
theorem dX1_happens_20 : decode cX1_happens 20 = .ok (.iconst 1, 1) := by decide +kernel
theorem dX1_happens_21 : decode cX1_happens 21 = .ok (.goto 26, 3) := by decide +kernel
theorem dX1_happens_24 : decode cX1_happens 24 = .ok (.iconst 0, 1) := by decide +kernel
theorem dX1_happens_25 : decode cX1_happens 25 = .ok (.goto 22, 3) := by decide +kernel
theorem dX1_happens_28 : decode cX1_happens 28 = .ok (.aload_n 0, 1) := by decide +kernel
theorem dX1_happens_29 : decode cX1_happens 29 = .ok (.getfield 15, 3) := by decide +kernel
theorem dX1_happens_32 : decode cX1_happens 32 = .ok (.sipush 1000, 3) := by decide +kernel
theorem dX1_happens_35 : decode cX1_happens 35 = .ok (.invokevirtual 91, 3) := by decide +kernel
theorem dX1_happens_38 : decode cX1_happens 38 = .ok (.iload_n 1, 1) := by decide +kernel
theorem dX1_happens_39 : decode cX1_happens 39 = .ok (.if_icmp .ge 7, 3) := by decide +kernel
theorem dX1_happens_42 : decode cX1_happens 42 = .ok (.iconst 1, 1) := by decide +kernel
theorem dX1_happens_43 : decode cX1_happens 43 = .ok (.goto 4, 3) := by decide +kernel
theorem dX1_happens_46 : decode cX1_happens 46 = .ok (.iconst 0, 1) := by decide +kernel
theorem dX1_happens_47 : decode cX1_happens 47 = .ok (.ireturn, 1) := by decide +kernel
theorem dX1_beginEvening_0 : decode cX1_beginEvening 0 = .ok (.iconst 0, 1) := by decide +kernel
theorem dX1_beginEvening_1 : decode cX1_beginEvening 1 = .ok (.istore_n 1, 1) := by decide +kernel
theorem dX1_beginEvening_2 : decode cX1_beginEvening 2 = .ok (.iload_n 1, 1) := by decide +kernel
theorem dX1_beginEvening_3 : decode cX1_beginEvening 3 = .ok (.aload_n 0, 1) := by decide +kernel
theorem dX1_beginEvening_4 : decode cX1_beginEvening 4 = .ok (.getfield 19, 3) := by decide +kernel
theorem dX1_beginEvening_7 : decode cX1_beginEvening 7 = .ok (.getfield 95, 3) := by decide +kernel
theorem dX1_beginEvening_10 : decode cX1_beginEvening 10 = .ok (.invokevirtual 100, 3) := by decide +kernel
theorem dX1_beginEvening_13 : decode cX1_beginEvening 13 = .ok (.if_icmp .ge 149, 3) := by decide +kernel
theorem dX1_beginEvening_16 : decode cX1_beginEvening 16 = .ok (.aload_n 0, 1) := by decide +kernel
theorem dX1_beginEvening_17 : decode cX1_beginEvening 17 = .ok (.getfield 19, 3) := by decide +kernel
theorem dX1_beginEvening_20 : decode cX1_beginEvening 20 = .ok (.getfield 95, 3) := by decide +kernel
theorem dX1_beginEvening_23 : decode cX1_beginEvening 23 = .ok (.iload_n 1, 1) := by decide +kernel
theorem dX1_beginEvening_24 : decode cX1_beginEvening 24 = .ok (.iconst 0, 1) := by decide +kernel
theorem dX1_beginEvening_25 : decode cX1_beginEvening 25 = .ok (.invokevirtual 104, 3) := by decide +kernel
theorem dX1_beginEvening_28 : decode cX1_beginEvening 28 = .ok (.aload_n 0, 1) := by decide +kernel
theorem dX1_beginEvening_29 : decode cX1_beginEvening 29 = .ok (.getfield 15, 3) := by decide +kernel
theorem dX1_beginEvening_32 : decode cX1_beginEvening 32 = .ok (.getfield 82, 3) := by decide +kernel
theorem dX1_beginEvening_35 : decode cX1_beginEvening 35 = .ok (.if_icmp .eq 6, 3) := by decide +kernel
theorem dX1_beginEvening_38 : decode cX1_beginEvening 38 = .ok (.goto 118, 3) := by decide +kernel
theorem dX1_beginEvening_41 : decode cX1_beginEvening 41 = .ok (.aload_n 0, 1) := by decide +kernel
theorem dX1_beginEvening_42 : decode cX1_beginEvening 42 = .ok (.getfield 19, 3) := by decide +kernel
theorem dX1_beginEvening_45 : decode cX1_beginEvening 45 = .ok (.getfield 95, 3) := by decide +kernel
theorem dX1_beginEvening_48 : decode cX1_beginEvening 48 = .ok (.iload_n 1, 1) := by decide +kernel
theorem dX1_beginEvening_49 : decode cX1_beginEvening 49 = .ok (.iconst 1, 1) := by decide +kernel
theorem dX1_beginEvening_50 : decode cX1_beginEvening 50 = .ok (.invokevirtual 104, 3) := by decide +kernel
theorem dX1_beginEvening_53 : decode cX1_beginEvening 53 = .ok (.istore_n 2, 1) := by decide +kernel
theorem dX1_beginEvening_54 : decode cX1_beginEvening 54 = .ok (.aload_n 0, 1) := by decide +kernel
theorem dX1_beginEvening_55 : decode cX1_beginEvening 55 = .ok (.getfield 19, 3) := by decide +kernel
theorem dX1_beginEvening_58 : decode cX1_beginEvening 58 = .ok (.getfield 95, 3) := by decide +kernel
theorem dX1_beginEvening_61 : decode cX1_beginEvening 61 = .ok (.iload_n 1, 1) := by decide +kernel
theorem dX1_beginEvening_62 : decode cX1_beginEvening 62 = .ok (.iconst 2, 1) := by decide +kernel
theorem dX1_beginEvening_63 : decode cX1_beginEvening 63 = .ok (.invokevirtual 104, 3) := by decide +kernel
theorem dX1_beginEvening_66 : decode cX1_beginEvening 66 = .ok (.istore_n 3, 1) := by decide +kernel
theorem dX1_beginEvening_67 : decode cX1_beginEvening 67 = .ok (.iload_n 2, 1) := by decide +kernel
theorem dX1_beginEvening_68 : decode cX1_beginEvening 68 = .ok (.sipush 287, 3) := by decide +kernel
theorem dX1_beginEvening_71 : decode cX1_beginEvening 71 = .ok (.if_icmp .eq 85, 3) := by decide +kernel
theorem dX1_beginEvening_74 : decode cX1_beginEvening 74 = .ok (.aload_n 0, 1) := by decide +kernel
theorem dX1_beginEvening_75 : decode cX1_beginEvening 75 = .ok (.getfield 15, 3) := by decide +kernel
theorem dX1_beginEvening_78 : decode cX1_beginEvening 78 = .ok (.iload_n 3, 1) := by decide +kernel
theorem dX1_beginEvening_79 : decode cX1_beginEvening 79 = .ok (.invokevirtual 72, 3) := by decide +kernel
theorem dX1_beginEvening_82 : decode cX1_beginEvening 82 = .ok (.ifCond .ne 6, 3) := by decide +kernel
theorem dX1_beginEvening_85 : decode cX1_beginEvening 85 = .ok (.goto 71, 3) := by decide +kernel
theorem dX1_beginEvening_88 : decode cX1_beginEvening 88 = .ok (.iload_n 2, 1) := by decide +kernel
theorem dX1_beginEvening_89 : decode cX1_beginEvening 89 = .ok (.sipush 285, 3) := by decide +kernel
theorem dX1_beginEvening_92 : decode cX1_beginEvening 92 = .ok (.if_icmp .ne 24, 3) := by decide +kernel
theorem dX1_beginEvening_95 : decode cX1_beginEvening 95 = .ok (.aload_n 0, 1) := by decide +kernel
theorem dX1_beginEvening_96 : decode cX1_beginEvening 96 = .ok (.getfield 15, 3) := by decide +kernel
theorem dX1_beginEvening_99 : decode cX1_beginEvening 99 = .ok (.getfield 110, 3) := by decide +kernel
theorem dX1_beginEvening_102 : decode cX1_beginEvening 102 = .ok (.iload_n 3, 1) := by decide +kernel
theorem dX1_beginEvening_103 : decode cX1_beginEvening 103 = .ok (.aload_n 0, 1) := by decide +kernel
theorem dX1_beginEvening_104 : decode cX1_beginEvening 104 = .ok (.getfield 19, 3) := by decide +kernel
theorem dX1_beginEvening_107 : decode cX1_beginEvening 107 = .ok (.getfield 95, 3) := by decide +kernel
theorem dX1_beginEvening_110 : decode cX1_beginEvening 110 = .ok (.iload_n 1, 1) := by decide +kernel
theorem dX1_beginEvening_111 : decode cX1_beginEvening 111 = .ok (.iconst 3, 1) := by decide +kernel
theorem dX1_beginEvening_112 : decode cX1_beginEvening 112 = .ok (.invokevirtual 104, 3) := by decide +kernel
theorem dX1_beginEvening_115 : decode cX1_beginEvening 115 = .ok (.iastore, 1) := by decide +kernel
theorem dX1_beginEvening_116 : decode cX1_beginEvening 116 = .ok (.iload_n 2, 1) := by decide +kernel
theorem dX1_beginEvening_117 : decode cX1_beginEvening 117 = .ok (.sipush 286, 3) := by decide +kernel
theorem dX1_beginEvening_120 : decode cX1_beginEvening 120 = .ok (.if_icmp .ne 8, 3) := by decide +kernel
theorem dX1_beginEvening_123 : decode cX1_beginEvening 123 = .ok (.aload_n 0, 1) := by decide +kernel
theorem dX1_beginEvening_124 : decode cX1_beginEvening 124 = .ok (.iload_n 3, 1) := by decide +kernel
theorem dX1_beginEvening_125 : decode cX1_beginEvening 125 = .ok (.invokevirtual 113, 3) := by decide +kernel
theorem dX1_beginEvening_128 : decode cX1_beginEvening 128 = .ok (.iload_n 2, 1) := by decide +kernel
theorem dX1_beginEvening_129 : decode cX1_beginEvening 129 = .ok (.sipush 288, 3) := by decide +kernel
theorem dX1_beginEvening_132 : decode cX1_beginEvening 132 = .ok (.if_icmp .ne 24, 3) := by decide +kernel
theorem dX1_beginEvening_135 : decode cX1_beginEvening 135 = .ok (.aload_n 0, 1) := by decide +kernel
theorem dX1_beginEvening_136 : decode cX1_beginEvening 136 = .ok (.getfield 15, 3) := by decide +kernel
theorem dX1_beginEvening_139 : decode cX1_beginEvening 139 = .ok (.getfield 117, 3) := by decide +kernel
theorem dX1_beginEvening_142 : decode cX1_beginEvening 142 = .ok (.iload_n 3, 1) := by decide +kernel
theorem dX1_beginEvening_143 : decode cX1_beginEvening 143 = .ok (.aload_n 0, 1) := by decide +kernel
theorem dX1_beginEvening_144 : decode cX1_beginEvening 144 = .ok (.getfield 19, 3) := by decide +kernel
theorem dX1_beginEvening_147 : decode cX1_beginEvening 147 = .ok (.getfield 95, 3) := by decide +kernel
theorem dX1_beginEvening_150 : decode cX1_beginEvening 150 = .ok (.iload_n 1, 1) := by decide +kernel
theorem dX1_beginEvening_151 : decode cX1_beginEvening 151 = .ok (.iconst 3, 1) := by decide +kernel
theorem dX1_beginEvening_152 : decode cX1_beginEvening 152 = .ok (.invokevirtual 104, 3) := by decide +kernel
theorem dX1_beginEvening_155 : decode cX1_beginEvening 155 = .ok (.iastore, 1) := by decide +kernel
theorem dX1_beginEvening_156 : decode cX1_beginEvening 156 = .ok (.iinc 1 1, 3) := by decide +kernel
theorem dX1_beginEvening_159 : decode cX1_beginEvening 159 = .ok (.goto (-157), 3) := by decide +kernel
theorem dX1_beginEvening_162 : decode cX1_beginEvening 162 = .ok (.return_, 1) := by decide +kernel
theorem dX1_followCalls_0 : decode cX1_followCalls 0 = .ok (.iconst 0, 1) := by decide +kernel
theorem dX1_followCalls_1 : decode cX1_followCalls 1 = .ok (.istore_n 1, 1) := by decide +kernel
theorem dX1_followCalls_2 : decode cX1_followCalls 2 = .ok (.iload_n 1, 1) := by decide +kernel
theorem dX1_followCalls_3 : decode cX1_followCalls 3 = .ok (.aload_n 0, 1) := by decide +kernel
theorem dX1_followCalls_4 : decode cX1_followCalls 4 = .ok (.getfield 19, 3) := by decide +kernel
theorem dX1_followCalls_7 : decode cX1_followCalls 7 = .ok (.getfield 120, 3) := by decide +kernel
theorem dX1_followCalls_10 : decode cX1_followCalls 10 = .ok (.invokevirtual 100, 3) := by decide +kernel
theorem dX1_followCalls_13 : decode cX1_followCalls 13 = .ok (.if_icmp .ge 125, 3) := by decide +kernel
theorem dX1_followCalls_16 : decode cX1_followCalls 16 = .ok (.aload_n 0, 1) := by decide +kernel
theorem dX1_followCalls_17 : decode cX1_followCalls 17 = .ok (.getfield 19, 3) := by decide +kernel
theorem dX1_followCalls_20 : decode cX1_followCalls 20 = .ok (.getfield 120, 3) := by decide +kernel
theorem dX1_followCalls_23 : decode cX1_followCalls 23 = .ok (.iload_n 1, 1) := by decide +kernel
theorem dX1_followCalls_24 : decode cX1_followCalls 24 = .ok (.iconst 1, 1) := by decide +kernel
theorem dX1_followCalls_25 : decode cX1_followCalls 25 = .ok (.invokevirtual 104, 3) := by decide +kernel
theorem dX1_followCalls_28 : decode cX1_followCalls 28 = .ok (.aload_n 0, 1) := by decide +kernel
theorem dX1_followCalls_29 : decode cX1_followCalls 29 = .ok (.getfield 15, 3) := by decide +kernel
theorem dX1_followCalls_32 : decode cX1_followCalls 32 = .ok (.getfield 31, 3) := by decide +kernel
theorem dX1_followCalls_35 : decode cX1_followCalls 35 = .ok (.if_icmp .eq 6, 3) := by decide +kernel
theorem dX1_followCalls_38 : decode cX1_followCalls 38 = .ok (.goto 94, 3) := by decide +kernel
theorem dX1_followCalls_41 : decode cX1_followCalls 41 = .ok (.aload_n 0, 1) := by decide +kernel
theorem dX1_followCalls_42 : decode cX1_followCalls 42 = .ok (.getfield 19, 3) := by decide +kernel
theorem dX1_followCalls_45 : decode cX1_followCalls 45 = .ok (.getfield 120, 3) := by decide +kernel
theorem dX1_followCalls_48 : decode cX1_followCalls 48 = .ok (.iload_n 1, 1) := by decide +kernel
theorem dX1_followCalls_49 : decode cX1_followCalls 49 = .ok (.iconst 0, 1) := by decide +kernel
theorem dX1_followCalls_50 : decode cX1_followCalls 50 = .ok (.invokevirtual 104, 3) := by decide +kernel
theorem dX1_followCalls_53 : decode cX1_followCalls 53 = .ok (.istore_n 2, 1) := by decide +kernel
theorem dX1_followCalls_54 : decode cX1_followCalls 54 = .ok (.aload_n 0, 1) := by decide +kernel
theorem dX1_followCalls_55 : decode cX1_followCalls 55 = .ok (.getfield 19, 3) := by decide +kernel
theorem dX1_followCalls_58 : decode cX1_followCalls 58 = .ok (.getfield 120, 3) := by decide +kernel
theorem dX1_followCalls_61 : decode cX1_followCalls 61 = .ok (.iload_n 1, 1) := by decide +kernel
theorem dX1_followCalls_62 : decode cX1_followCalls 62 = .ok (.iconst 2, 1) := by decide +kernel
theorem dX1_followCalls_63 : decode cX1_followCalls 63 = .ok (.invokevirtual 104, 3) := by decide +kernel
theorem dX1_followCalls_66 : decode cX1_followCalls 66 = .ok (.istore_n 3, 1) := by decide +kernel
theorem dX1_followCalls_67 : decode cX1_followCalls 67 = .ok (.aload_n 0, 1) := by decide +kernel
theorem dX1_followCalls_68 : decode cX1_followCalls 68 = .ok (.getfield 15, 3) := by decide +kernel
theorem dX1_followCalls_71 : decode cX1_followCalls 71 = .ok (.iload_n 2, 1) := by decide +kernel
theorem dX1_followCalls_72 : decode cX1_followCalls 72 = .ok (.invokevirtual 123, 3) := by decide +kernel
theorem dX1_followCalls_75 : decode cX1_followCalls 75 = .ok (.ifCond .eq 20, 3) := by decide +kernel
theorem dX1_followCalls_78 : decode cX1_followCalls 78 = .ok (.aload_n 0, 1) := by decide +kernel
theorem dX1_followCalls_79 : decode cX1_followCalls 79 = .ok (.getfield 15, 3) := by decide +kernel
theorem dX1_followCalls_82 : decode cX1_followCalls 82 = .ok (.getfield 126, 3) := by decide +kernel
theorem dX1_followCalls_85 : decode cX1_followCalls 85 = .ok (.iload_n 2, 1) := by decide +kernel
theorem dX1_followCalls_86 : decode cX1_followCalls 86 = .ok (.iaload, 1) := by decide +kernel
theorem dX1_followCalls_87 : decode cX1_followCalls 87 = .ok (.iconst (-1), 1) := by decide +kernel
theorem dX1_followCalls_88 : decode cX1_followCalls 88 = .ok (.if_icmp .ne 7, 3) := by decide +kernel
theorem dX1_followCalls_91 : decode cX1_followCalls 91 = .ok (.iconst 1, 1) := by decide +kernel
theorem dX1_followCalls_92 : decode cX1_followCalls 92 = .ok (.goto 4, 3) := by decide +kernel
theorem dX1_followCalls_95 : decode cX1_followCalls 95 = .ok (.iconst 0, 1) := by decide +kernel
theorem dX1_followCalls_96 : decode cX1_followCalls 96 = .ok (.istore 4, 2) := by decide +kernel
theorem dX1_followCalls_98 : decode cX1_followCalls 98 = .ok (.iload 4, 2) := by decide +kernel
theorem dX1_followCalls_100 : decode cX1_followCalls 100 = .ok (.ifCond .eq 32, 3) := by decide +kernel
theorem dX1_followCalls_103 : decode cX1_followCalls 103 = .ok (.aload_n 0, 1) := by decide +kernel
theorem dX1_followCalls_104 : decode cX1_followCalls 104 = .ok (.getfield 15, 3) := by decide +kernel
theorem dX1_followCalls_107 : decode cX1_followCalls 107 = .ok (.iload_n 3, 1) := by decide +kernel
theorem dX1_followCalls_108 : decode cX1_followCalls 108 = .ok (.invokevirtual 129, 3) := by decide +kernel
theorem dX1_followCalls_111 : decode cX1_followCalls 111 = .ok (.ifCond .eq 21, 3) := by decide +kernel
theorem dX1_followCalls_114 : decode cX1_followCalls 114 = .ok (.aload_n 0, 1) := by decide +kernel
theorem dX1_followCalls_115 : decode cX1_followCalls 115 = .ok (.iload_n 2, 1) := by decide +kernel
theorem dX1_followCalls_116 : decode cX1_followCalls 116 = .ok (.iload_n 3, 1) := by decide +kernel
theorem dX1_followCalls_117 : decode cX1_followCalls 117 = .ok (.aload_n 0, 1) := by decide +kernel
theorem dX1_followCalls_118 : decode cX1_followCalls 118 = .ok (.getfield 19, 3) := by decide +kernel
theorem dX1_followCalls_121 : decode cX1_followCalls 121 = .ok (.getfield 120, 3) := by decide +kernel
theorem dX1_followCalls_124 : decode cX1_followCalls 124 = .ok (.iload_n 1, 1) := by decide +kernel
theorem dX1_followCalls_125 : decode cX1_followCalls 125 = .ok (.iconst 3, 1) := by decide +kernel
theorem dX1_followCalls_126 : decode cX1_followCalls 126 = .ok (.invokevirtual 104, 3) := by decide +kernel
theorem dX1_followCalls_129 : decode cX1_followCalls 129 = .ok (.invokevirtual 132, 3) := by decide +kernel
theorem dX1_followCalls_132 : decode cX1_followCalls 132 = .ok (.iinc 1 1, 3) := by decide +kernel
theorem dX1_followCalls_135 : decode cX1_followCalls 135 = .ok (.goto (-133), 3) := by decide +kernel
theorem dX1_followCalls_138 : decode cX1_followCalls 138 = .ok (.return_, 1) := by decide +kernel
theorem dX1_letItRain_0 : decode cX1_letItRain 0 = .ok (.iconst 0, 1) := by decide +kernel
theorem dX1_letItRain_1 : decode cX1_letItRain 1 = .ok (.istore_n 1, 1) := by decide +kernel
theorem dX1_letItRain_2 : decode cX1_letItRain 2 = .ok (.iconst 0, 1) := by decide +kernel
theorem dX1_letItRain_3 : decode cX1_letItRain 3 = .ok (.istore_n 2, 1) := by decide +kernel
theorem dX1_letItRain_4 : decode cX1_letItRain 4 = .ok (.iload_n 2, 1) := by decide +kernel
theorem dX1_letItRain_5 : decode cX1_letItRain 5 = .ok (.aload_n 0, 1) := by decide +kernel
theorem dX1_letItRain_6 : decode cX1_letItRain 6 = .ok (.getfield 19, 3) := by decide +kernel
theorem dX1_letItRain_9 : decode cX1_letItRain 9 = .ok (.getfield 95, 3) := by decide +kernel
theorem dX1_letItRain_12 : decode cX1_letItRain 12 = .ok (.invokevirtual 100, 3) := by decide +kernel
theorem dX1_letItRain_15 : decode cX1_letItRain 15 = .ok (.if_icmp .ge 83, 3) := by decide +kernel
theorem dX1_letItRain_18 : decode cX1_letItRain 18 = .ok (.aload_n 0, 1) := by decide +kernel
theorem dX1_letItRain_19 : decode cX1_letItRain 19 = .ok (.getfield 19, 3) := by decide +kernel
theorem dX1_letItRain_22 : decode cX1_letItRain 22 = .ok (.getfield 95, 3) := by decide +kernel
theorem dX1_letItRain_25 : decode cX1_letItRain 25 = .ok (.iload_n 2, 1) := by decide +kernel
theorem dX1_letItRain_26 : decode cX1_letItRain 26 = .ok (.iconst 0, 1) := by decide +kernel
theorem dX1_letItRain_27 : decode cX1_letItRain 27 = .ok (.invokevirtual 104, 3) := by decide +kernel
theorem dX1_letItRain_30 : decode cX1_letItRain 30 = .ok (.aload_n 0, 1) := by decide +kernel
theorem dX1_letItRain_31 : decode cX1_letItRain 31 = .ok (.getfield 15, 3) := by decide +kernel
theorem dX1_letItRain_34 : decode cX1_letItRain 34 = .ok (.getfield 82, 3) := by decide +kernel
theorem dX1_letItRain_37 : decode cX1_letItRain 37 = .ok (.if_icmp .ne 29, 3) := by decide +kernel
theorem dX1_letItRain_40 : decode cX1_letItRain 40 = .ok (.aload_n 0, 1) := by decide +kernel
theorem dX1_letItRain_41 : decode cX1_letItRain 41 = .ok (.getfield 19, 3) := by decide +kernel
theorem dX1_letItRain_44 : decode cX1_letItRain 44 = .ok (.getfield 95, 3) := by decide +kernel
theorem dX1_letItRain_47 : decode cX1_letItRain 47 = .ok (.iload_n 2, 1) := by decide +kernel
theorem dX1_letItRain_48 : decode cX1_letItRain 48 = .ok (.iconst 2, 1) := by decide +kernel
theorem dX1_letItRain_49 : decode cX1_letItRain 49 = .ok (.invokevirtual 104, 3) := by decide +kernel
theorem dX1_letItRain_52 : decode cX1_letItRain 52 = .ok (.aload_n 0, 1) := by decide +kernel
theorem dX1_letItRain_53 : decode cX1_letItRain 53 = .ok (.getfield 15, 3) := by decide +kernel
theorem dX1_letItRain_56 : decode cX1_letItRain 56 = .ok (.getfield 31, 3) := by decide +kernel
theorem dX1_letItRain_59 : decode cX1_letItRain 59 = .ok (.if_icmp .ne 7, 3) := by decide +kernel
theorem dX1_letItRain_62 : decode cX1_letItRain 62 = .ok (.iconst 1, 1) := by decide +kernel
theorem dX1_letItRain_63 : decode cX1_letItRain 63 = .ok (.goto 4, 3) := by decide +kernel
theorem dX1_letItRain_66 : decode cX1_letItRain 66 = .ok (.iconst 0, 1) := by decide +kernel
theorem dX1_letItRain_67 : decode cX1_letItRain 67 = .ok (.istore_n 3, 1) := by decide +kernel
theorem dX1_letItRain_68 : decode cX1_letItRain 68 = .ok (.iload_n 3, 1) := by decide +kernel
theorem dX1_letItRain_69 : decode cX1_letItRain 69 = .ok (.ifCond .eq 23, 3) := by decide +kernel
theorem dX1_letItRain_72 : decode cX1_letItRain 72 = .ok (.aload_n 0, 1) := by decide +kernel
theorem dX1_letItRain_73 : decode cX1_letItRain 73 = .ok (.getfield 19, 3) := by decide +kernel
theorem dX1_letItRain_76 : decode cX1_letItRain 76 = .ok (.getfield 95, 3) := by decide +kernel
theorem dX1_letItRain_79 : decode cX1_letItRain 79 = .ok (.iload_n 2, 1) := by decide +kernel
theorem dX1_letItRain_80 : decode cX1_letItRain 80 = .ok (.iconst 1, 1) := by decide +kernel
theorem dX1_letItRain_81 : decode cX1_letItRain 81 = .ok (.invokevirtual 104, 3) := by decide +kernel
theorem dX1_letItRain_84 : decode cX1_letItRain 84 = .ok (.sipush 287, 3) := by decide +kernel
theorem dX1_letItRain_87 : decode cX1_letItRain 87 = .ok (.if_icmp .ne 5, 3) := by decide +kernel
theorem dX1_letItRain_90 : decode cX1_letItRain 90 = .ok (.iconst 1, 1) := by decide +kernel
theorem dX1_letItRain_91 : decode cX1_letItRain 91 = .ok (.istore_n 1, 1) := by decide +kernel
theorem dX1_letItRain_92 : decode cX1_letItRain 92 = .ok (.iinc 2 1, 3) := by decide +kernel
theorem dX1_letItRain_95 : decode cX1_letItRain 95 = .ok (.goto (-91), 3) := by decide +kernel
theorem dX1_letItRain_98 : decode cX1_letItRain 98 = .ok (.iconst 0, 1) := by decide +kernel
theorem dX1_letItRain_99 : decode cX1_letItRain 99 = .ok (.istore_n 2, 1) := by decide +kernel
theorem dX1_letItRain_100 : decode cX1_letItRain 100 = .ok (.iload_n 1, 1) := by decide +kernel
theorem dX1_letItRain_101 : decode cX1_letItRain 101 = .ok (.ifCond .eq 63, 3) := by decide +kernel
theorem dX1_letItRain_104 : decode cX1_letItRain 104 = .ok (.iload_n 2, 1) := by decide +kernel
theorem dX1_letItRain_105 : decode cX1_letItRain 105 = .ok (.aload_n 0, 1) := by decide +kernel
theorem dX1_letItRain_106 : decode cX1_letItRain 106 = .ok (.getfield 15, 3) := by decide +kernel
theorem dX1_letItRain_109 : decode cX1_letItRain 109 = .ok (.getfield 46, 3) := by decide +kernel
theorem dX1_letItRain_112 : decode cX1_letItRain 112 = .ok (.if_icmp .ge 52, 3) := by decide +kernel
theorem dX1_letItRain_115 : decode cX1_letItRain 115 = .ok (.aload_n 0, 1) := by decide +kernel
theorem dX1_letItRain_116 : decode cX1_letItRain 116 = .ok (.getfield 15, 3) := by decide +kernel
theorem dX1_letItRain_119 : decode cX1_letItRain 119 = .ok (.getfield 126, 3) := by decide +kernel
theorem dX1_letItRain_122 : decode cX1_letItRain 122 = .ok (.iload_n 2, 1) := by decide +kernel
theorem dX1_letItRain_123 : decode cX1_letItRain 123 = .ok (.iaload, 1) := by decide +kernel
theorem dX1_letItRain_124 : decode cX1_letItRain 124 = .ok (.istore_n 3, 1) := by decide +kernel
theorem dX1_letItRain_125 : decode cX1_letItRain 125 = .ok (.aload_n 0, 1) := by decide +kernel
theorem dX1_letItRain_126 : decode cX1_letItRain 126 = .ok (.getfield 15, 3) := by decide +kernel
theorem dX1_letItRain_129 : decode cX1_letItRain 129 = .ok (.iload_n 3, 1) := by decide +kernel
theorem dX1_letItRain_130 : decode cX1_letItRain 130 = .ok (.invokevirtual 72, 3) := by decide +kernel
theorem dX1_letItRain_133 : decode cX1_letItRain 133 = .ok (.ifCond .eq 25, 3) := by decide +kernel
theorem dX1_letItRain_136 : decode cX1_letItRain 136 = .ok (.aload_n 0, 1) := by decide +kernel
theorem dX1_letItRain_137 : decode cX1_letItRain 137 = .ok (.getfield 15, 3) := by decide +kernel
theorem dX1_letItRain_140 : decode cX1_letItRain 140 = .ok (.getfield 75, 3) := by decide +kernel
theorem dX1_letItRain_143 : decode cX1_letItRain 143 = .ok (.iload_n 3, 1) := by decide +kernel
theorem dX1_letItRain_144 : decode cX1_letItRain 144 = .ok (.iaload, 1) := by decide +kernel
theorem dX1_letItRain_145 : decode cX1_letItRain 145 = .ok (.bipush 50, 2) := by decide +kernel
theorem dX1_letItRain_147 : decode cX1_letItRain 147 = .ok (.if_icmp .le 11, 3) := by decide +kernel
theorem dX1_letItRain_150 : decode cX1_letItRain 150 = .ok (.aload_n 0, 1) := by decide +kernel
theorem dX1_letItRain_151 : decode cX1_letItRain 151 = .ok (.getfield 15, 3) := by decide +kernel
theorem dX1_letItRain_154 : decode cX1_letItRain 154 = .ok (.iload_n 2, 1) := by decide +kernel
theorem dX1_letItRain_155 : decode cX1_letItRain 155 = .ok (.invokevirtual 135, 3) := by decide +kernel
theorem dX1_letItRain_158 : decode cX1_letItRain 158 = .ok (.iinc 2 1, 3) := by decide +kernel
theorem dX1_letItRain_161 : decode cX1_letItRain 161 = .ok (.goto (-61), 3) := by decide +kernel
theorem dX1_letItRain_164 : decode cX1_letItRain 164 = .ok (.return_, 1) := by decide +kernel
theorem dX1_speaksNow_0 : decode cX1_speaksNow 0 = .ok (.aload_n 0, 1) := by decide +kernel
theorem dX1_speaksNow_1 : decode cX1_speaksNow 1 = .ok (.getfield 15, 3) := by decide +kernel
theorem dX1_speaksNow_4 : decode cX1_speaksNow 4 = .ok (.getfield 126, 3) := by decide +kernel
theorem dX1_speaksNow_7 : decode cX1_speaksNow 7 = .ok (.iload_n 1, 1) := by decide +kernel
theorem dX1_speaksNow_8 : decode cX1_speaksNow 8 = .ok (.iaload, 1) := by decide +kernel
theorem dX1_speaksNow_9 : decode cX1_speaksNow 9 = .ok (.istore_n 2, 1) := by decide +kernel
theorem dX1_speaksNow_10 : decode cX1_speaksNow 10 = .ok (.iload_n 2, 1) := by decide +kernel
theorem dX1_speaksNow_11 : decode cX1_speaksNow 11 = .ok (.iconst (-1), 1) := by decide +kernel
theorem dX1_speaksNow_12 : decode cX1_speaksNow 12 = .ok (.if_icmp .eq 22, 3) := by decide +kernel
theorem dX1_speaksNow_15 : decode cX1_speaksNow 15 = .ok (.aload_n 0, 1) := by decide +kernel
theorem dX1_speaksNow_16 : decode cX1_speaksNow 16 = .ok (.aload_n 0, 1) := by decide +kernel
theorem dX1_speaksNow_17 : decode cX1_speaksNow 17 = .ok (.getfield 23, 3) := by decide +kernel
theorem dX1_speaksNow_20 : decode cX1_speaksNow 20 = .ok (.sipush 260, 3) := by decide +kernel
theorem dX1_speaksNow_23 : decode cX1_speaksNow 23 = .ok (.iload_n 1, 1) := by decide +kernel
theorem dX1_speaksNow_24 : decode cX1_speaksNow 24 = .ok (.iload_n 2, 1) := by decide +kernel
theorem dX1_speaksNow_25 : decode cX1_speaksNow 25 = .ok (.invokevirtual 138, 3) := by decide +kernel
theorem dX1_speaksNow_28 : decode cX1_speaksNow 28 = .ok (.invokevirtual 144, 3) := by decide +kernel
theorem dX1_speaksNow_31 : decode cX1_speaksNow 31 = .ok (.ifCond .ne 5, 3) := by decide +kernel
theorem dX1_speaksNow_34 : decode cX1_speaksNow 34 = .ok (.iconst 0, 1) := by decide +kernel
theorem dX1_speaksNow_35 : decode cX1_speaksNow 35 = .ok (.ireturn, 1) := by decide +kernel
theorem dX1_speaksNow_36 : decode cX1_speaksNow 36 = .ok (.aload_n 0, 1) := by decide +kernel
theorem dX1_speaksNow_37 : decode cX1_speaksNow 37 = .ok (.getfield 15, 3) := by decide +kernel
theorem dX1_speaksNow_40 : decode cX1_speaksNow 40 = .ok (.getfield 147, 3) := by decide +kernel
theorem dX1_speaksNow_43 : decode cX1_speaksNow 43 = .ok (.iload_n 1, 1) := by decide +kernel
theorem dX1_speaksNow_44 : decode cX1_speaksNow 44 = .ok (.dup2, 1) := by decide +kernel
theorem dX1_speaksNow_45 : decode cX1_speaksNow 45 = .ok (.iaload, 1) := by decide +kernel
theorem dX1_speaksNow_46 : decode cX1_speaksNow 46 = .ok (.iconst 1, 1) := by decide +kernel
theorem dX1_speaksNow_47 : decode cX1_speaksNow 47 = .ok (.iadd, 1) := by decide +kernel
theorem dX1_speaksNow_48 : decode cX1_speaksNow 48 = .ok (.iastore, 1) := by decide +kernel
theorem dX1_speaksNow_49 : decode cX1_speaksNow 49 = .ok (.iconst 0, 1) := by decide +kernel
theorem dX1_speaksNow_50 : decode cX1_speaksNow 50 = .ok (.istore_n 3, 1) := by decide +kernel
theorem dX1_speaksNow_51 : decode cX1_speaksNow 51 = .ok (.iconst 0, 1) := by decide +kernel
theorem dX1_speaksNow_52 : decode cX1_speaksNow 52 = .ok (.istore 4, 2) := by decide +kernel
theorem dX1_speaksNow_54 : decode cX1_speaksNow 54 = .ok (.iload 4, 2) := by decide +kernel
theorem dX1_speaksNow_56 : decode cX1_speaksNow 56 = .ok (.aload_n 0, 1) := by decide +kernel
theorem dX1_speaksNow_57 : decode cX1_speaksNow 57 = .ok (.getfield 15, 3) := by decide +kernel
theorem dX1_speaksNow_60 : decode cX1_speaksNow 60 = .ok (.getfield 46, 3) := by decide +kernel
theorem dX1_speaksNow_63 : decode cX1_speaksNow 63 = .ok (.if_icmp .ge 29, 3) := by decide +kernel
theorem dX1_speaksNow_66 : decode cX1_speaksNow 66 = .ok (.iload 4, 2) := by decide +kernel
theorem dX1_speaksNow_68 : decode cX1_speaksNow 68 = .ok (.iload_n 1, 1) := by decide +kernel
theorem dX1_speaksNow_69 : decode cX1_speaksNow 69 = .ok (.if_icmp .eq 17, 3) := by decide +kernel
theorem dX1_speaksNow_72 : decode cX1_speaksNow 72 = .ok (.aload_n 0, 1) := by decide +kernel
theorem dX1_speaksNow_73 : decode cX1_speaksNow 73 = .ok (.iload 4, 2) := by decide +kernel
theorem dX1_speaksNow_75 : decode cX1_speaksNow 75 = .ok (.iload_n 1, 1) := by decide +kernel
theorem dX1_speaksNow_76 : decode cX1_speaksNow 76 = .ok (.iload_n 2, 1) := by decide +kernel
theorem dX1_speaksNow_77 : decode cX1_speaksNow 77 = .ok (.invokevirtual 150, 3) := by decide +kernel
theorem dX1_speaksNow_80 : decode cX1_speaksNow 80 = .ok (.ifCond .eq 6, 3) := by decide +kernel
theorem dX1_speaksNow_83 : decode cX1_speaksNow 83 = .ok (.iinc 3 1, 3) := by decide +kernel
theorem dX1_speaksNow_86 : decode cX1_speaksNow 86 = .ok (.iinc 4 1, 3) := by decide +kernel
theorem dX1_speaksNow_89 : decode cX1_speaksNow 89 = .ok (.goto (-35), 3) := by decide +kernel
theorem dX1_speaksNow_92 : decode cX1_speaksNow 92 = .ok (.aload_n 0, 1) := by decide +kernel
theorem dX1_speaksNow_93 : decode cX1_speaksNow 93 = .ok (.iconst 1, 1) := by decide +kernel
theorem dX1_speaksNow_94 : decode cX1_speaksNow 94 = .ok (.iload_n 1, 1) := by decide +kernel
theorem dX1_speaksNow_95 : decode cX1_speaksNow 95 = .ok (.iload_n 3, 1) := by decide +kernel
theorem dX1_speaksNow_96 : decode cX1_speaksNow 96 = .ok (.invokevirtual 69, 3) := by decide +kernel
theorem dX1_speaksNow_99 : decode cX1_speaksNow 99 = .ok (.iconst 1, 1) := by decide +kernel
theorem dX1_speaksNow_100 : decode cX1_speaksNow 100 = .ok (.ireturn, 1) := by decide +kernel
theorem dX1_hearsNow_0 : decode cX1_hearsNow 0 = .ok (.aload_n 0, 1) := by decide +kernel
theorem dX1_hearsNow_1 : decode cX1_hearsNow 1 = .ok (.getfield 15, 3) := by decide +kernel
theorem dX1_hearsNow_4 : decode cX1_hearsNow 4 = .ok (.getfield 126, 3) := by decide +kernel
theorem dX1_hearsNow_7 : decode cX1_hearsNow 7 = .ok (.iload_n 1, 1) := by decide +kernel
theorem dX1_hearsNow_8 : decode cX1_hearsNow 8 = .ok (.iaload, 1) := by decide +kernel
theorem dX1_hearsNow_9 : decode cX1_hearsNow 9 = .ok (.istore 4, 2) := by decide +kernel
theorem dX1_hearsNow_11 : decode cX1_hearsNow 11 = .ok (.iload 4, 2) := by decide +kernel
theorem dX1_hearsNow_13 : decode cX1_hearsNow 13 = .ok (.iconst (-1), 1) := by decide +kernel
theorem dX1_hearsNow_14 : decode cX1_hearsNow 14 = .ok (.if_icmp .ne 5, 3) := by decide +kernel
theorem dX1_hearsNow_17 : decode cX1_hearsNow 17 = .ok (.iconst 0, 1) := by decide +kernel
theorem dX1_hearsNow_18 : decode cX1_hearsNow 18 = .ok (.ireturn, 1) := by decide +kernel
theorem dX1_hearsNow_19 : decode cX1_hearsNow 19 = .ok (.iload 4, 2) := by decide +kernel
theorem dX1_hearsNow_21 : decode cX1_hearsNow 21 = .ok (.iload_n 3, 1) := by decide +kernel
theorem dX1_hearsNow_22 : decode cX1_hearsNow 22 = .ok (.if_icmp .eq 58, 3) := by decide +kernel
theorem dX1_hearsNow_25 : decode cX1_hearsNow 25 = .ok (.aload_n 0, 1) := by decide +kernel
theorem dX1_hearsNow_26 : decode cX1_hearsNow 26 = .ok (.getfield 19, 3) := by decide +kernel
theorem dX1_hearsNow_29 : decode cX1_hearsNow 29 = .ok (.iload_n 3, 1) := by decide +kernel
theorem dX1_hearsNow_30 : decode cX1_hearsNow 30 = .ok (.iload 4, 2) := by decide +kernel
theorem dX1_hearsNow_32 : decode cX1_hearsNow 32 = .ok (.invokevirtual 154, 3) := by decide +kernel
theorem dX1_hearsNow_35 : decode cX1_hearsNow 35 = .ok (.istore 5, 2) := by decide +kernel
theorem dX1_hearsNow_37 : decode cX1_hearsNow 37 = .ok (.iload 5, 2) := by decide +kernel
theorem dX1_hearsNow_39 : decode cX1_hearsNow 39 = .ok (.iconst (-1), 1) := by decide +kernel
theorem dX1_hearsNow_40 : decode cX1_hearsNow 40 = .ok (.if_icmp .eq 10, 3) := by decide +kernel
theorem dX1_hearsNow_43 : decode cX1_hearsNow 43 = .ok (.iload 5, 2) := by decide +kernel
theorem dX1_hearsNow_45 : decode cX1_hearsNow 45 = .ok (.bipush 10, 2) := by decide +kernel
theorem dX1_hearsNow_47 : decode cX1_hearsNow 47 = .ok (.if_icmp .le 5, 3) := by decide +kernel
theorem dX1_hearsNow_50 : decode cX1_hearsNow 50 = .ok (.iconst 0, 1) := by decide +kernel
theorem dX1_hearsNow_51 : decode cX1_hearsNow 51 = .ok (.ireturn, 1) := by decide +kernel
theorem dX1_hearsNow_52 : decode cX1_hearsNow 52 = .ok (.aload_n 0, 1) := by decide +kernel
theorem dX1_hearsNow_53 : decode cX1_hearsNow 53 = .ok (.aload_n 0, 1) := by decide +kernel
theorem dX1_hearsNow_54 : decode cX1_hearsNow 54 = .ok (.getfield 23, 3) := by decide +kernel
theorem dX1_hearsNow_57 : decode cX1_hearsNow 57 = .ok (.sipush 261, 3) := by decide +kernel
theorem dX1_hearsNow_60 : decode cX1_hearsNow 60 = .ok (.iload_n 1, 1) := by decide +kernel
theorem dX1_hearsNow_61 : decode cX1_hearsNow 61 = .ok (.iload_n 3, 1) := by decide +kernel
theorem dX1_hearsNow_62 : decode cX1_hearsNow 62 = .ok (.invokevirtual 138, 3) := by decide +kernel
theorem dX1_hearsNow_65 : decode cX1_hearsNow 65 = .ok (.invokevirtual 144, 3) := by decide +kernel
theorem dX1_hearsNow_68 : decode cX1_hearsNow 68 = .ok (.ifCond .ne 5, 3) := by decide +kernel
theorem dX1_hearsNow_71 : decode cX1_hearsNow 71 = .ok (.iconst 0, 1) := by decide +kernel
theorem dX1_hearsNow_72 : decode cX1_hearsNow 72 = .ok (.ireturn, 1) := by decide +kernel
theorem dX1_hearsNow_73 : decode cX1_hearsNow 73 = .ok (.aload_n 0, 1) := by decide +kernel
theorem dX1_hearsNow_74 : decode cX1_hearsNow 74 = .ok (.iconst 2, 1) := by decide +kernel
theorem dX1_hearsNow_75 : decode cX1_hearsNow 75 = .ok (.iload_n 1, 1) := by decide +kernel
theorem dX1_hearsNow_76 : decode cX1_hearsNow 76 = .ok (.iload_n 2, 1) := by decide +kernel
theorem dX1_hearsNow_77 : decode cX1_hearsNow 77 = .ok (.invokevirtual 69, 3) := by decide +kernel
theorem dX1_hearsNow_80 : decode cX1_hearsNow 80 = .ok (.aload_n 0, 1) := by decide +kernel
theorem dX1_hearsNow_81 : decode cX1_hearsNow 81 = .ok (.getfield 15, 3) := by decide +kernel
theorem dX1_hearsNow_84 : decode cX1_hearsNow 84 = .ok (.getfield 157, 3) := by decide +kernel
theorem dX1_hearsNow_87 : decode cX1_hearsNow 87 = .ok (.iload_n 1, 1) := by decide +kernel
theorem dX1_hearsNow_88 : decode cX1_hearsNow 88 = .ok (.dup2, 1) := by decide +kernel
theorem dX1_hearsNow_89 : decode cX1_hearsNow 89 = .ok (.iaload, 1) := by decide +kernel
theorem dX1_hearsNow_90 : decode cX1_hearsNow 90 = .ok (.iconst 1, 1) := by decide +kernel
theorem dX1_hearsNow_91 : decode cX1_hearsNow 91 = .ok (.iadd, 1) := by decide +kernel
theorem dX1_hearsNow_92 : decode cX1_hearsNow 92 = .ok (.iastore, 1) := by decide +kernel
theorem dX1_hearsNow_93 : decode cX1_hearsNow 93 = .ok (.iconst 1, 1) := by decide +kernel
theorem dX1_hearsNow_94 : decode cX1_hearsNow 94 = .ok (.ireturn, 1) := by decide +kernel
theorem dX1_stayOrRise_0 : decode cX1_stayOrRise 0 = .ok (.iconst 0, 1) := by decide +kernel
theorem dX1_stayOrRise_1 : decode cX1_stayOrRise 1 = .ok (.istore_n 1, 1) := by decide +kernel
theorem dX1_stayOrRise_2 : decode cX1_stayOrRise 2 = .ok (.iload_n 1, 1) := by decide +kernel
theorem dX1_stayOrRise_3 : decode cX1_stayOrRise 3 = .ok (.aload_n 0, 1) := by decide +kernel
theorem dX1_stayOrRise_4 : decode cX1_stayOrRise 4 = .ok (.getfield 15, 3) := by decide +kernel
theorem dX1_stayOrRise_7 : decode cX1_stayOrRise 7 = .ok (.getfield 46, 3) := by decide +kernel
theorem dX1_stayOrRise_10 : decode cX1_stayOrRise 10 = .ok (.if_icmp .ge 67, 3) := by decide +kernel
theorem dX1_stayOrRise_13 : decode cX1_stayOrRise 13 = .ok (.aload_n 0, 1) := by decide +kernel
theorem dX1_stayOrRise_14 : decode cX1_stayOrRise 14 = .ok (.getfield 15, 3) := by decide +kernel
theorem dX1_stayOrRise_17 : decode cX1_stayOrRise 17 = .ok (.getfield 126, 3) := by decide +kernel
theorem dX1_stayOrRise_20 : decode cX1_stayOrRise 20 = .ok (.iload_n 1, 1) := by decide +kernel
theorem dX1_stayOrRise_21 : decode cX1_stayOrRise 21 = .ok (.iaload, 1) := by decide +kernel
theorem dX1_stayOrRise_22 : decode cX1_stayOrRise 22 = .ok (.iconst (-1), 1) := by decide +kernel
theorem dX1_stayOrRise_23 : decode cX1_stayOrRise 23 = .ok (.if_icmp .ne 6, 3) := by decide +kernel
theorem dX1_stayOrRise_26 : decode cX1_stayOrRise 26 = .ok (.goto 45, 3) := by decide +kernel
theorem dX1_stayOrRise_29 : decode cX1_stayOrRise 29 = .ok (.aload_n 0, 1) := by decide +kernel
theorem dX1_stayOrRise_30 : decode cX1_stayOrRise 30 = .ok (.getfield 15, 3) := by decide +kernel
theorem dX1_stayOrRise_33 : decode cX1_stayOrRise 33 = .ok (.getfield 160, 3) := by decide +kernel
theorem dX1_stayOrRise_36 : decode cX1_stayOrRise 36 = .ok (.iload_n 1, 1) := by decide +kernel
theorem dX1_stayOrRise_37 : decode cX1_stayOrRise 37 = .ok (.dup2, 1) := by decide +kernel
theorem dX1_stayOrRise_38 : decode cX1_stayOrRise 38 = .ok (.iaload, 1) := by decide +kernel
theorem dX1_stayOrRise_39 : decode cX1_stayOrRise 39 = .ok (.iconst 1, 1) := by decide +kernel
theorem dX1_stayOrRise_40 : decode cX1_stayOrRise 40 = .ok (.iadd, 1) := by decide +kernel
theorem dX1_stayOrRise_41 : decode cX1_stayOrRise 41 = .ok (.iastore, 1) := by decide +kernel
theorem dX1_stayOrRise_42 : decode cX1_stayOrRise 42 = .ok (.aload_n 0, 1) := by decide +kernel
theorem dX1_stayOrRise_43 : decode cX1_stayOrRise 43 = .ok (.getfield 15, 3) := by decide +kernel
theorem dX1_stayOrRise_46 : decode cX1_stayOrRise 46 = .ok (.getfield 160, 3) := by decide +kernel
theorem dX1_stayOrRise_49 : decode cX1_stayOrRise 49 = .ok (.iload_n 1, 1) := by decide +kernel
theorem dX1_stayOrRise_50 : decode cX1_stayOrRise 50 = .ok (.iaload, 1) := by decide +kernel
theorem dX1_stayOrRise_51 : decode cX1_stayOrRise 51 = .ok (.aload_n 0, 1) := by decide +kernel
theorem dX1_stayOrRise_52 : decode cX1_stayOrRise 52 = .ok (.getfield 15, 3) := by decide +kernel
theorem dX1_stayOrRise_55 : decode cX1_stayOrRise 55 = .ok (.getfield 163, 3) := by decide +kernel
theorem dX1_stayOrRise_58 : decode cX1_stayOrRise 58 = .ok (.iload_n 1, 1) := by decide +kernel
theorem dX1_stayOrRise_59 : decode cX1_stayOrRise 59 = .ok (.iaload, 1) := by decide +kernel
theorem dX1_stayOrRise_60 : decode cX1_stayOrRise 60 = .ok (.if_icmp .lt 11, 3) := by decide +kernel
theorem dX1_stayOrRise_63 : decode cX1_stayOrRise 63 = .ok (.aload_n 0, 1) := by decide +kernel
theorem dX1_stayOrRise_64 : decode cX1_stayOrRise 64 = .ok (.getfield 15, 3) := by decide +kernel
theorem dX1_stayOrRise_67 : decode cX1_stayOrRise 67 = .ok (.iload_n 1, 1) := by decide +kernel
theorem dX1_stayOrRise_68 : decode cX1_stayOrRise 68 = .ok (.invokevirtual 135, 3) := by decide +kernel
theorem dX1_stayOrRise_71 : decode cX1_stayOrRise 71 = .ok (.iinc 1 1, 3) := by decide +kernel
theorem dX1_stayOrRise_74 : decode cX1_stayOrRise 74 = .ok (.goto (-72), 3) := by decide +kernel
theorem dX1_stayOrRise_77 : decode cX1_stayOrRise 77 = .ok (.return_, 1) := by decide +kernel
theorem dX1_burnLamps_0 : decode cX1_burnLamps 0 = .ok (.iconst 0, 1) := by decide +kernel
theorem dX1_burnLamps_1 : decode cX1_burnLamps 1 = .ok (.istore_n 1, 1) := by decide +kernel
theorem dX1_burnLamps_2 : decode cX1_burnLamps 2 = .ok (.iload_n 1, 1) := by decide +kernel
theorem dX1_burnLamps_3 : decode cX1_burnLamps 3 = .ok (.aload_n 0, 1) := by decide +kernel
theorem dX1_burnLamps_4 : decode cX1_burnLamps 4 = .ok (.getfield 15, 3) := by decide +kernel
theorem dX1_burnLamps_7 : decode cX1_burnLamps 7 = .ok (.getfield 166, 3) := by decide +kernel
theorem dX1_burnLamps_10 : decode cX1_burnLamps 10 = .ok (.if_icmp .ge 54, 3) := by decide +kernel
theorem dX1_burnLamps_13 : decode cX1_burnLamps 13 = .ok (.aload_n 0, 1) := by decide +kernel
theorem dX1_burnLamps_14 : decode cX1_burnLamps 14 = .ok (.getfield 15, 3) := by decide +kernel
theorem dX1_burnLamps_17 : decode cX1_burnLamps 17 = .ok (.getfield 110, 3) := by decide +kernel
theorem dX1_burnLamps_20 : decode cX1_burnLamps 20 = .ok (.iload_n 1, 1) := by decide +kernel
theorem dX1_burnLamps_21 : decode cX1_burnLamps 21 = .ok (.iaload, 1) := by decide +kernel
theorem dX1_burnLamps_22 : decode cX1_burnLamps 22 = .ok (.ifCond .ne 6, 3) := by decide +kernel
theorem dX1_burnLamps_25 : decode cX1_burnLamps 25 = .ok (.goto 33, 3) := by decide +kernel
theorem dX1_burnLamps_28 : decode cX1_burnLamps 28 = .ok (.aload_n 0, 1) := by decide +kernel
theorem dX1_burnLamps_29 : decode cX1_burnLamps 29 = .ok (.getfield 15, 3) := by decide +kernel
theorem dX1_burnLamps_32 : decode cX1_burnLamps 32 = .ok (.getfield 110, 3) := by decide +kernel
theorem dX1_burnLamps_35 : decode cX1_burnLamps 35 = .ok (.iload_n 1, 1) := by decide +kernel
theorem dX1_burnLamps_36 : decode cX1_burnLamps 36 = .ok (.dup2, 1) := by decide +kernel
theorem dX1_burnLamps_37 : decode cX1_burnLamps 37 = .ok (.iaload, 1) := by decide +kernel
theorem dX1_burnLamps_38 : decode cX1_burnLamps 38 = .ok (.iconst 1, 1) := by decide +kernel
theorem dX1_burnLamps_39 : decode cX1_burnLamps 39 = .ok (.isub, 1) := by decide +kernel
theorem dX1_burnLamps_40 : decode cX1_burnLamps 40 = .ok (.iastore, 1) := by decide +kernel
theorem dX1_burnLamps_41 : decode cX1_burnLamps 41 = .ok (.aload_n 0, 1) := by decide +kernel
theorem dX1_burnLamps_42 : decode cX1_burnLamps 42 = .ok (.getfield 15, 3) := by decide +kernel
theorem dX1_burnLamps_45 : decode cX1_burnLamps 45 = .ok (.getfield 110, 3) := by decide +kernel
theorem dX1_burnLamps_48 : decode cX1_burnLamps 48 = .ok (.iload_n 1, 1) := by decide +kernel
theorem dX1_burnLamps_49 : decode cX1_burnLamps 49 = .ok (.iaload, 1) := by decide +kernel
theorem dX1_burnLamps_50 : decode cX1_burnLamps 50 = .ok (.ifCond .ne 8, 3) := by decide +kernel
theorem dX1_burnLamps_53 : decode cX1_burnLamps 53 = .ok (.aload_n 0, 1) := by decide +kernel
theorem dX1_burnLamps_54 : decode cX1_burnLamps 54 = .ok (.iload_n 1, 1) := by decide +kernel
theorem dX1_burnLamps_55 : decode cX1_burnLamps 55 = .ok (.invokevirtual 169, 3) := by decide +kernel
theorem dX1_burnLamps_58 : decode cX1_burnLamps 58 = .ok (.iinc 1 1, 3) := by decide +kernel
theorem dX1_burnLamps_61 : decode cX1_burnLamps 61 = .ok (.goto (-59), 3) := by decide +kernel
theorem dX1_burnLamps_64 : decode cX1_burnLamps 64 = .ok (.return_, 1) := by decide +kernel
theorem dX1_acceptAt_0 : decode cX1_acceptAt 0 = .ok (.aload_n 0, 1) := by decide +kernel
theorem dX1_acceptAt_1 : decode cX1_acceptAt 1 = .ok (.getfield 15, 3) := by decide +kernel
theorem dX1_acceptAt_4 : decode cX1_acceptAt 4 = .ok (.getfield 117, 3) := by decide +kernel
theorem dX1_acceptAt_7 : decode cX1_acceptAt 7 = .ok (.iload_n 1, 1) := by decide +kernel
theorem dX1_acceptAt_8 : decode cX1_acceptAt 8 = .ok (.iaload, 1) := by decide +kernel
theorem dX1_acceptAt_9 : decode cX1_acceptAt 9 = .ok (.istore_n 2, 1) := by decide +kernel
theorem dX1_acceptAt_10 : decode cX1_acceptAt 10 = .ok (.aload_n 0, 1) := by decide +kernel
theorem dX1_acceptAt_11 : decode cX1_acceptAt 11 = .ok (.getfield 15, 3) := by decide +kernel
theorem dX1_acceptAt_14 : decode cX1_acceptAt 14 = .ok (.iload_n 2, 1) := by decide +kernel
theorem dX1_acceptAt_15 : decode cX1_acceptAt 15 = .ok (.invokevirtual 123, 3) := by decide +kernel
theorem dX1_acceptAt_18 : decode cX1_acceptAt 18 = .ok (.ifCond .eq 16, 3) := by decide +kernel
theorem dX1_acceptAt_21 : decode cX1_acceptAt 21 = .ok (.aload_n 0, 1) := by decide +kernel
theorem dX1_acceptAt_22 : decode cX1_acceptAt 22 = .ok (.getfield 15, 3) := by decide +kernel
theorem dX1_acceptAt_25 : decode cX1_acceptAt 25 = .ok (.getfield 126, 3) := by decide +kernel
theorem dX1_acceptAt_28 : decode cX1_acceptAt 28 = .ok (.iload_n 2, 1) := by decide +kernel
theorem dX1_acceptAt_29 : decode cX1_acceptAt 29 = .ok (.iaload, 1) := by decide +kernel
theorem dX1_acceptAt_30 : decode cX1_acceptAt 30 = .ok (.iload_n 1, 1) := by decide +kernel
theorem dX1_acceptAt_31 : decode cX1_acceptAt 31 = .ok (.if_icmp .eq 4, 3) := by decide +kernel
theorem dX1_acceptAt_34 : decode cX1_acceptAt 34 = .ok (.return_, 1) := by decide +kernel
theorem dX1_acceptAt_35 : decode cX1_acceptAt 35 = .ok (.iconst 0, 1) := by decide +kernel
theorem dX1_acceptAt_36 : decode cX1_acceptAt 36 = .ok (.istore_n 3, 1) := by decide +kernel
theorem dX1_acceptAt_37 : decode cX1_acceptAt 37 = .ok (.iload_n 3, 1) := by decide +kernel
theorem dX1_acceptAt_38 : decode cX1_acceptAt 38 = .ok (.aload_n 0, 1) := by decide +kernel
theorem dX1_acceptAt_39 : decode cX1_acceptAt 39 = .ok (.getfield 15, 3) := by decide +kernel
theorem dX1_acceptAt_42 : decode cX1_acceptAt 42 = .ok (.getfield 46, 3) := by decide +kernel
theorem dX1_acceptAt_45 : decode cX1_acceptAt 45 = .ok (.if_icmp .ge 72, 3) := by decide +kernel
theorem dX1_acceptAt_48 : decode cX1_acceptAt 48 = .ok (.aload_n 0, 1) := by decide +kernel
theorem dX1_acceptAt_49 : decode cX1_acceptAt 49 = .ok (.getfield 15, 3) := by decide +kernel
theorem dX1_acceptAt_52 : decode cX1_acceptAt 52 = .ok (.getfield 126, 3) := by decide +kernel
theorem dX1_acceptAt_55 : decode cX1_acceptAt 55 = .ok (.iload_n 3, 1) := by decide +kernel
theorem dX1_acceptAt_56 : decode cX1_acceptAt 56 = .ok (.iaload, 1) := by decide +kernel
theorem dX1_acceptAt_57 : decode cX1_acceptAt 57 = .ok (.iload_n 1, 1) := by decide +kernel
theorem dX1_acceptAt_58 : decode cX1_acceptAt 58 = .ok (.if_icmp .ne 12, 3) := by decide +kernel
theorem dX1_acceptAt_61 : decode cX1_acceptAt 61 = .ok (.iload_n 3, 1) := by decide +kernel
theorem dX1_acceptAt_62 : decode cX1_acceptAt 62 = .ok (.iload_n 2, 1) := by decide +kernel
theorem dX1_acceptAt_63 : decode cX1_acceptAt 63 = .ok (.if_icmp .eq 7, 3) := by decide +kernel
theorem dX1_acceptAt_66 : decode cX1_acceptAt 66 = .ok (.iconst 1, 1) := by decide +kernel
theorem dX1_acceptAt_67 : decode cX1_acceptAt 67 = .ok (.goto 4, 3) := by decide +kernel
theorem dX1_acceptAt_70 : decode cX1_acceptAt 70 = .ok (.iconst 0, 1) := by decide +kernel
theorem dX1_acceptAt_71 : decode cX1_acceptAt 71 = .ok (.istore 4, 2) := by decide +kernel
theorem dX1_acceptAt_73 : decode cX1_acceptAt 73 = .ok (.iload 4, 2) := by decide +kernel
theorem dX1_acceptAt_75 : decode cX1_acceptAt 75 = .ok (.ifCond .eq 36, 3) := by decide +kernel
theorem dX1_acceptAt_78 : decode cX1_acceptAt 78 = .ok (.aload_n 0, 1) := by decide +kernel
theorem dX1_acceptAt_79 : decode cX1_acceptAt 79 = .ok (.getfield 15, 3) := by decide +kernel
theorem dX1_acceptAt_82 : decode cX1_acceptAt 82 = .ok (.getfield 172, 3) := by decide +kernel
theorem dX1_acceptAt_85 : decode cX1_acceptAt 85 = .ok (.iload_n 3, 1) := by decide +kernel
theorem dX1_acceptAt_86 : decode cX1_acceptAt 86 = .ok (.iaload, 1) := by decide +kernel
theorem dX1_acceptAt_87 : decode cX1_acceptAt 87 = .ok (.iconst (-1), 1) := by decide +kernel
theorem dX1_acceptAt_88 : decode cX1_acceptAt 88 = .ok (.if_icmp .eq 6, 3) := by decide +kernel
theorem dX1_acceptAt_91 : decode cX1_acceptAt 91 = .ok (.goto 20, 3) := by decide +kernel
theorem dX1_acceptAt_94 : decode cX1_acceptAt 94 = .ok (.aload_n 0, 1) := by decide +kernel
theorem dX1_acceptAt_95 : decode cX1_acceptAt 95 = .ok (.getfield 15, 3) := by decide +kernel
theorem dX1_acceptAt_98 : decode cX1_acceptAt 98 = .ok (.getfield 172, 3) := by decide +kernel
theorem dX1_acceptAt_101 : decode cX1_acceptAt 101 = .ok (.iload_n 3, 1) := by decide +kernel
theorem dX1_acceptAt_102 : decode cX1_acceptAt 102 = .ok (.iload_n 2, 1) := by decide +kernel
theorem dX1_acceptAt_103 : decode cX1_acceptAt 103 = .ok (.iastore, 1) := by decide +kernel
theorem dX1_acceptAt_104 : decode cX1_acceptAt 104 = .ok (.aload_n 0, 1) := by decide +kernel
theorem dX1_acceptAt_105 : decode cX1_acceptAt 105 = .ok (.iconst 3, 1) := by decide +kernel
theorem dX1_acceptAt_106 : decode cX1_acceptAt 106 = .ok (.iload_n 3, 1) := by decide +kernel
theorem dX1_acceptAt_107 : decode cX1_acceptAt 107 = .ok (.iload_n 2, 1) := by decide +kernel
theorem dX1_acceptAt_108 : decode cX1_acceptAt 108 = .ok (.invokevirtual 69, 3) := by decide +kernel
theorem dX1_acceptAt_111 : decode cX1_acceptAt 111 = .ok (.iinc 3 1, 3) := by decide +kernel
theorem dX1_acceptAt_114 : decode cX1_acceptAt 114 = .ok (.goto (-77), 3) := by decide +kernel
theorem dX1_acceptAt_117 : decode cX1_acceptAt 117 = .ok (.return_, 1) := by decide +kernel
theorem dX1_spinCobwebs_0 : decode cX1_spinCobwebs 0 = .ok (.iconst 0, 1) := by decide +kernel
theorem dX1_spinCobwebs_1 : decode cX1_spinCobwebs 1 = .ok (.istore_n 1, 1) := by decide +kernel
theorem dX1_spinCobwebs_2 : decode cX1_spinCobwebs 2 = .ok (.iload_n 1, 1) := by decide +kernel
theorem dX1_spinCobwebs_3 : decode cX1_spinCobwebs 3 = .ok (.aload_n 0, 1) := by decide +kernel
theorem dX1_spinCobwebs_4 : decode cX1_spinCobwebs 4 = .ok (.getfield 15, 3) := by decide +kernel
theorem dX1_spinCobwebs_7 : decode cX1_spinCobwebs 7 = .ok (.getfield 166, 3) := by decide +kernel
theorem dX1_spinCobwebs_10 : decode cX1_spinCobwebs 10 = .ok (.if_icmp .ge 62, 3) := by decide +kernel
theorem dX1_spinCobwebs_13 : decode cX1_spinCobwebs 13 = .ok (.aload_n 0, 1) := by decide +kernel
theorem dX1_spinCobwebs_14 : decode cX1_spinCobwebs 14 = .ok (.getfield 15, 3) := by decide +kernel
theorem dX1_spinCobwebs_17 : decode cX1_spinCobwebs 17 = .ok (.getfield 175, 3) := by decide +kernel
theorem dX1_spinCobwebs_20 : decode cX1_spinCobwebs 20 = .ok (.iload_n 1, 1) := by decide +kernel
theorem dX1_spinCobwebs_21 : decode cX1_spinCobwebs 21 = .ok (.iaload, 1) := by decide +kernel
theorem dX1_spinCobwebs_22 : decode cX1_spinCobwebs 22 = .ok (.ifCond .le 6, 3) := by decide +kernel
theorem dX1_spinCobwebs_25 : decode cX1_spinCobwebs 25 = .ok (.goto 41, 3) := by decide +kernel
theorem dX1_spinCobwebs_28 : decode cX1_spinCobwebs 28 = .ok (.aload_n 0, 1) := by decide +kernel
theorem dX1_spinCobwebs_29 : decode cX1_spinCobwebs 29 = .ok (.getfield 23, 3) := by decide +kernel
theorem dX1_spinCobwebs_32 : decode cX1_spinCobwebs 32 = .ok (.sipush 262, 3) := by decide +kernel
theorem dX1_spinCobwebs_35 : decode cX1_spinCobwebs 35 = .ok (.iconst (-1), 1) := by decide +kernel
theorem dX1_spinCobwebs_36 : decode cX1_spinCobwebs 36 = .ok (.iload_n 1, 1) := by decide +kernel
theorem dX1_spinCobwebs_37 : decode cX1_spinCobwebs 37 = .ok (.invokevirtual 138, 3) := by decide +kernel
theorem dX1_spinCobwebs_40 : decode cX1_spinCobwebs 40 = .ok (.istore_n 2, 1) := by decide +kernel
theorem dX1_spinCobwebs_41 : decode cX1_spinCobwebs 41 = .ok (.aload_n 0, 1) := by decide +kernel
theorem dX1_spinCobwebs_42 : decode cX1_spinCobwebs 42 = .ok (.getfield 15, 3) := by decide +kernel
theorem dX1_spinCobwebs_45 : decode cX1_spinCobwebs 45 = .ok (.getfield 75, 3) := by decide +kernel
theorem dX1_spinCobwebs_48 : decode cX1_spinCobwebs 48 = .ok (.iload_n 1, 1) := by decide +kernel
theorem dX1_spinCobwebs_49 : decode cX1_spinCobwebs 49 = .ok (.bipush 99, 2) := by decide +kernel
theorem dX1_spinCobwebs_51 : decode cX1_spinCobwebs 51 = .ok (.aload_n 0, 1) := by decide +kernel
theorem dX1_spinCobwebs_52 : decode cX1_spinCobwebs 52 = .ok (.getfield 15, 3) := by decide +kernel
theorem dX1_spinCobwebs_55 : decode cX1_spinCobwebs 55 = .ok (.getfield 75, 3) := by decide +kernel
theorem dX1_spinCobwebs_58 : decode cX1_spinCobwebs 58 = .ok (.iload_n 1, 1) := by decide +kernel
theorem dX1_spinCobwebs_59 : decode cX1_spinCobwebs 59 = .ok (.iaload, 1) := by decide +kernel
theorem dX1_spinCobwebs_60 : decode cX1_spinCobwebs 60 = .ok (.iload_n 2, 1) := by decide +kernel
theorem dX1_spinCobwebs_61 : decode cX1_spinCobwebs 61 = .ok (.iadd, 1) := by decide +kernel
theorem dX1_spinCobwebs_62 : decode cX1_spinCobwebs 62 = .ok (.invokestatic 178, 3) := by decide +kernel
theorem dX1_spinCobwebs_65 : decode cX1_spinCobwebs 65 = .ok (.iastore, 1) := by decide +kernel
theorem dX1_spinCobwebs_66 : decode cX1_spinCobwebs 66 = .ok (.iinc 1 1, 3) := by decide +kernel
theorem dX1_spinCobwebs_69 : decode cX1_spinCobwebs 69 = .ok (.goto (-67), 3) := by decide +kernel
theorem dX1_spinCobwebs_72 : decode cX1_spinCobwebs 72 = .ok (.return_, 1) := by decide +kernel
theorem dX1_turnClock_0 : decode cX1_turnClock 0 = .ok (.aload_n 0, 1) := by decide +kernel
theorem dX1_turnClock_1 : decode cX1_turnClock 1 = .ok (.getfield 15, 3) := by decide +kernel
theorem dX1_turnClock_4 : decode cX1_turnClock 4 = .ok (.dup, 1) := by decide +kernel
theorem dX1_turnClock_5 : decode cX1_turnClock 5 = .ok (.getfield 31, 3) := by decide +kernel
theorem dX1_turnClock_8 : decode cX1_turnClock 8 = .ok (.iconst 1, 1) := by decide +kernel
theorem dX1_turnClock_9 : decode cX1_turnClock 9 = .ok (.iadd, 1) := by decide +kernel
theorem dX1_turnClock_10 : decode cX1_turnClock 10 = .ok (.putfield 31, 3) := by decide +kernel
theorem dX1_turnClock_13 : decode cX1_turnClock 13 = .ok (.aload_n 0, 1) := by decide +kernel
theorem dX1_turnClock_14 : decode cX1_turnClock 14 = .ok (.getfield 15, 3) := by decide +kernel
theorem dX1_turnClock_17 : decode cX1_turnClock 17 = .ok (.getfield 31, 3) := by decide +kernel
theorem dX1_turnClock_20 : decode cX1_turnClock 20 = .ok (.bipush 60, 2) := by decide +kernel
theorem dX1_turnClock_22 : decode cX1_turnClock 22 = .ok (.if_icmp .ge 4, 3) := by decide +kernel
theorem dX1_turnClock_25 : decode cX1_turnClock 25 = .ok (.return_, 1) := by decide +kernel
theorem dX1_turnClock_26 : decode cX1_turnClock 26 = .ok (.aload_n 0, 1) := by decide +kernel
theorem dX1_turnClock_27 : decode cX1_turnClock 27 = .ok (.getfield 15, 3) := by decide +kernel
theorem dX1_turnClock_30 : decode cX1_turnClock 30 = .ok (.iconst 0, 1) := by decide +kernel
theorem dX1_turnClock_31 : decode cX1_turnClock 31 = .ok (.putfield 31, 3) := by decide +kernel
theorem dX1_turnClock_34 : decode cX1_turnClock 34 = .ok (.aload_n 0, 1) := by decide +kernel
theorem dX1_turnClock_35 : decode cX1_turnClock 35 = .ok (.getfield 15, 3) := by decide +kernel
theorem dX1_turnClock_38 : decode cX1_turnClock 38 = .ok (.dup, 1) := by decide +kernel
theorem dX1_turnClock_39 : decode cX1_turnClock 39 = .ok (.getfield 82, 3) := by decide +kernel
theorem dX1_turnClock_42 : decode cX1_turnClock 42 = .ok (.iconst 1, 1) := by decide +kernel
theorem dX1_turnClock_43 : decode cX1_turnClock 43 = .ok (.iadd, 1) := by decide +kernel
theorem dX1_turnClock_44 : decode cX1_turnClock 44 = .ok (.putfield 82, 3) := by decide +kernel
theorem dX1_turnClock_47 : decode cX1_turnClock 47 = .ok (.iconst 0, 1) := by decide +kernel
theorem dX1_turnClock_48 : decode cX1_turnClock 48 = .ok (.istore_n 1, 1) := by decide +kernel
theorem dX1_turnClock_49 : decode cX1_turnClock 49 = .ok (.iload_n 1, 1) := by decide +kernel
theorem dX1_turnClock_50 : decode cX1_turnClock 50 = .ok (.aload_n 0, 1) := by decide +kernel
theorem dX1_turnClock_51 : decode cX1_turnClock 51 = .ok (.getfield 15, 3) := by decide +kernel
theorem dX1_turnClock_54 : decode cX1_turnClock 54 = .ok (.getfield 46, 3) := by decide +kernel
theorem dX1_turnClock_57 : decode cX1_turnClock 57 = .ok (.if_icmp .ge 17, 3) := by decide +kernel
theorem dX1_turnClock_60 : decode cX1_turnClock 60 = .ok (.aload_n 0, 1) := by decide +kernel
theorem dX1_turnClock_61 : decode cX1_turnClock 61 = .ok (.getfield 15, 3) := by decide +kernel
theorem dX1_turnClock_64 : decode cX1_turnClock 64 = .ok (.iload_n 1, 1) := by decide +kernel
theorem dX1_turnClock_65 : decode cX1_turnClock 65 = .ok (.invokevirtual 135, 3) := by decide +kernel
theorem dX1_turnClock_68 : decode cX1_turnClock 68 = .ok (.iinc 1 1, 3) := by decide +kernel
theorem dX1_turnClock_71 : decode cX1_turnClock 71 = .ok (.goto (-22), 3) := by decide +kernel
theorem dX1_turnClock_74 : decode cX1_turnClock 74 = .ok (.return_, 1) := by decide +kernel
theorem dX2_init_0 : decode cX2_init 0 = .ok (.aload_n 0, 1) := by decide +kernel
theorem dX2_init_1 : decode cX2_init 1 = .ok (.invokespecial 3, 3) := by decide +kernel
theorem dX2_init_4 : decode cX2_init 4 = .ok (.aload_n 0, 1) := by decide +kernel
theorem dX2_init_5 : decode cX2_init 5 = .ok (.iconst 0, 1) := by decide +kernel
theorem dX2_init_6 : decode cX2_init 6 = .ok (.putfield 9, 3) := by decide +kernel
theorem dX2_init_9 : decode cX2_init 9 = .ok (.aload_n 0, 1) := by decide +kernel
theorem dX2_init_10 : decode cX2_init 10 = .ok (.iconst 0, 1) := by decide +kernel
theorem dX2_init_11 : decode cX2_init 11 = .ok (.putfield 15, 3) := by decide +kernel
theorem dX2_init_14 : decode cX2_init 14 = .ok (.aload_n 0, 1) := by decide +kernel
theorem dX2_init_15 : decode cX2_init 15 = .ok (.iconst 0, 1) := by decide +kernel
theorem dX2_init_16 : decode cX2_init 16 = .ok (.putfield 18, 3) := by decide +kernel
theorem dX2_init_19 : decode cX2_init 19 = .ok (.aload_n 0, 1) := by decide +kernel
theorem dX2_init_20 : decode cX2_init 20 = .ok (.iconst 0, 1) := by decide +kernel
theorem dX2_init_21 : decode cX2_init 21 = .ok (.putfield 21, 3) := by decide +kernel
theorem dX2_init_24 : decode cX2_init 24 = .ok (.aload_n 0, 1) := by decide +kernel
theorem dX2_init_25 : decode cX2_init 25 = .ok (.iconst 0, 1) := by decide +kernel
theorem dX2_init_26 : decode cX2_init 26 = .ok (.putfield 24, 3) := by decide +kernel
theorem dX2_init_29 : decode cX2_init 29 = .ok (.aload_n 0, 1) := by decide +kernel
theorem dX2_init_30 : decode cX2_init 30 = .ok (.iconst 0, 1) := by decide +kernel
theorem dX2_init_31 : decode cX2_init 31 = .ok (.putfield 27, 3) := by decide +kernel
theorem dX2_init_34 : decode cX2_init 34 = .ok (.aload_n 0, 1) := by decide +kernel
theorem dX2_init_35 : decode cX2_init 35 = .ok (.bipush 12, 2) := by decide +kernel
theorem dX2_init_37 : decode cX2_init 37 = .ok (.newarray .int, 2) := by decide +kernel
theorem dX2_init_39 : decode cX2_init 39 = .ok (.putfield 30, 3) := by decide +kernel
theorem dX2_init_42 : decode cX2_init 42 = .ok (.aload_n 0, 1) := by decide +kernel
theorem dX2_init_43 : decode cX2_init 43 = .ok (.bipush 12, 2) := by decide +kernel
theorem dX2_init_45 : decode cX2_init 45 = .ok (.newarray .int, 2) := by decide +kernel
theorem dX2_init_47 : decode cX2_init 47 = .ok (.putfield 34, 3) := by decide +kernel
theorem dX2_init_50 : decode cX2_init 50 = .ok (.aload_n 0, 1) := by decide +kernel
theorem dX2_init_51 : decode cX2_init 51 = .ok (.bipush 12, 2) := by decide +kernel
theorem dX2_init_53 : decode cX2_init 53 = .ok (.newarray .int, 2) := by decide +kernel
theorem dX2_init_55 : decode cX2_init 55 = .ok (.putfield 37, 3) := by decide +kernel
theorem dX2_init_58 : decode cX2_init 58 = .ok (.aload_n 0, 1) := by decide +kernel
theorem dX2_init_59 : decode cX2_init 59 = .ok (.bipush 12, 2) := by decide +kernel
theorem dX2_init_61 : decode cX2_init 61 = .ok (.newarray .int, 2) := by decide +kernel
theorem dX2_init_63 : decode cX2_init 63 = .ok (.putfield 40, 3) := by decide +kernel
theorem dX2_init_66 : decode cX2_init 66 = .ok (.aload_n 0, 1) := by decide +kernel
theorem dX2_init_67 : decode cX2_init 67 = .ok (.bipush 12, 2) := by decide +kernel
theorem dX2_init_69 : decode cX2_init 69 = .ok (.newarray .int, 2) := by decide +kernel
theorem dX2_init_71 : decode cX2_init 71 = .ok (.putfield 43, 3) := by decide +kernel
theorem dX2_init_74 : decode cX2_init 74 = .ok (.aload_n 0, 1) := by decide +kernel
theorem dX2_init_75 : decode cX2_init 75 = .ok (.bipush 20, 2) := by decide +kernel
theorem dX2_init_77 : decode cX2_init 77 = .ok (.newarray .int, 2) := by decide +kernel
theorem dX2_init_79 : decode cX2_init 79 = .ok (.putfield 46, 3) := by decide +kernel
theorem dX2_init_82 : decode cX2_init 82 = .ok (.aload_n 0, 1) := by decide +kernel
theorem dX2_init_83 : decode cX2_init 83 = .ok (.bipush 20, 2) := by decide +kernel
theorem dX2_init_85 : decode cX2_init 85 = .ok (.newarray .int, 2) := by decide +kernel
theorem dX2_init_87 : decode cX2_init 87 = .ok (.putfield 49, 3) := by decide +kernel
theorem dX2_init_90 : decode cX2_init 90 = .ok (.aload_n 0, 1) := by decide +kernel
theorem dX2_init_91 : decode cX2_init 91 = .ok (.bipush 20, 2) := by decide +kernel
theorem dX2_init_93 : decode cX2_init 93 = .ok (.newarray .int, 2) := by decide +kernel
theorem dX2_init_95 : decode cX2_init 95 = .ok (.putfield 52, 3) := by decide +kernel
theorem dX2_init_98 : decode cX2_init 98 = .ok (.aload_n 0, 1) := by decide +kernel
theorem dX2_init_99 : decode cX2_init 99 = .ok (.bipush 20, 2) := by decide +kernel
theorem dX2_init_101 : decode cX2_init 101 = .ok (.newarray .int, 2) := by decide +kernel
theorem dX2_init_103 : decode cX2_init 103 = .ok (.putfield 55, 3) := by decide +kernel
theorem dX2_init_106 : decode cX2_init 106 = .ok (.aload_n 0, 1) := by decide +kernel
theorem dX2_init_107 : decode cX2_init 107 = .ok (.bipush 20, 2) := by decide +kernel
theorem dX2_init_109 : decode cX2_init 109 = .ok (.newarray .int, 2) := by decide +kernel
theorem dX2_init_111 : decode cX2_init 111 = .ok (.putfield 58, 3) := by decide +kernel
theorem dX2_init_114 : decode cX2_init 114 = .ok (.aload_n 0, 1) := by decide +kernel
theorem dX2_init_115 : decode cX2_init 115 = .ok (.bipush 20, 2) := by decide +kernel
theorem dX2_init_117 : decode cX2_init 117 = .ok (.newarray .int, 2) := by decide +kernel
theorem dX2_init_119 : decode cX2_init 119 = .ok (.putfield 61, 3) := by decide +kernel
theorem dX2_init_122 : decode cX2_init 122 = .ok (.aload_n 0, 1) := by decide +kernel
theorem dX2_init_123 : decode cX2_init 123 = .ok (.bipush 20, 2) := by decide +kernel
theorem dX2_init_125 : decode cX2_init 125 = .ok (.newarray .int, 2) := by decide +kernel
theorem dX2_init_127 : decode cX2_init 127 = .ok (.putfield 64, 3) := by decide +kernel
theorem dX2_init_130 : decode cX2_init 130 = .ok (.aload_n 0, 1) := by decide +kernel
theorem dX2_init_131 : decode cX2_init 131 = .ok (.bipush 20, 2) := by decide +kernel
theorem dX2_init_133 : decode cX2_init 133 = .ok (.newarray .int, 2) := by decide +kernel
theorem dX2_init_135 : decode cX2_init 135 = .ok (.putfield 67, 3) := by decide +kernel
theorem dX2_init_138 : decode cX2_init 138 = .ok (.return_, 1) := by decide +kernel
theorem dX2_hasPorch_0 : decode cX2_hasPorch 0 = .ok (.iload_n 1, 1) := by decide +kernel
theorem dX2_hasPorch_1 : decode cX2_hasPorch 1 = .ok (.ifCond .lt 15, 3) := by decide +kernel
theorem dX2_hasPorch_4 : decode cX2_hasPorch 4 = .ok (.iload_n 1, 1) := by decide +kernel
theorem dX2_hasPorch_5 : decode cX2_hasPorch 5 = .ok (.aload_n 0, 1) := by decide +kernel
theorem dX2_hasPorch_6 : decode cX2_hasPorch 6 = .ok (.getfield 24, 3) := by decide +kernel
theorem dX2_hasPorch_9 : decode cX2_hasPorch 9 = .ok (.if_icmp .ge 7, 3) := by decide +kernel
theorem dX2_hasPorch_12 : decode cX2_hasPorch 12 = .ok (.iconst 1, 1) := by decide +kernel
theorem dX2_hasPorch_13 : decode cX2_hasPorch 13 = .ok (.goto 4, 3) := by decide +kernel
theorem dX2_hasPorch_16 : decode cX2_hasPorch 16 = .ok (.iconst 0, 1) := by decide +kernel
theorem dX2_hasPorch_17 : decode cX2_hasPorch 17 = .ok (.ireturn, 1) := by decide +kernel
theorem dX2_hasPerson_0 : decode cX2_hasPerson 0 = .ok (.iload_n 1, 1) := by decide +kernel
theorem dX2_hasPerson_1 : decode cX2_hasPerson 1 = .ok (.ifCond .lt 15, 3) := by decide +kernel
theorem dX2_hasPerson_4 : decode cX2_hasPerson 4 = .ok (.iload_n 1, 1) := by decide +kernel
theorem dX2_hasPerson_5 : decode cX2_hasPerson 5 = .ok (.aload_n 0, 1) := by decide +kernel
theorem dX2_hasPerson_6 : decode cX2_hasPerson 6 = .ok (.getfield 27, 3) := by decide +kernel
theorem dX2_hasPerson_9 : decode cX2_hasPerson 9 = .ok (.if_icmp .ge 7, 3) := by decide +kernel
theorem dX2_hasPerson_12 : decode cX2_hasPerson 12 = .ok (.iconst 1, 1) := by decide +kernel
theorem dX2_hasPerson_13 : decode cX2_hasPerson 13 = .ok (.goto 4, 3) := by decide +kernel
theorem dX2_hasPerson_16 : decode cX2_hasPerson 16 = .ok (.iconst 0, 1) := by decide +kernel
theorem dX2_hasPerson_17 : decode cX2_hasPerson 17 = .ok (.ireturn, 1) := by decide +kernel
theorem dX2_addPorch_0 : decode cX2_addPorch 0 = .ok (.aload_n 0, 1) := by decide +kernel
theorem dX2_addPorch_1 : decode cX2_addPorch 1 = .ok (.getfield 24, 3) := by decide +kernel
theorem dX2_addPorch_4 : decode cX2_addPorch 4 = .ok (.bipush 12, 2) := by decide +kernel
theorem dX2_addPorch_6 : decode cX2_addPorch 6 = .ok (.if_icmp .lt 5, 3) := by decide +kernel
theorem dX2_addPorch_9 : decode cX2_addPorch 9 = .ok (.iconst (-1), 1) := by decide +kernel
theorem dX2_addPorch_10 : decode cX2_addPorch 10 = .ok (.ireturn, 1) := by decide +kernel
theorem dX2_addPorch_11 : decode cX2_addPorch 11 = .ok (.aload_n 0, 1) := by decide +kernel
theorem dX2_addPorch_12 : decode cX2_addPorch 12 = .ok (.getfield 30, 3) := by decide +kernel
theorem dX2_addPorch_15 : decode cX2_addPorch 15 = .ok (.aload_n 0, 1) := by decide +kernel
theorem dX2_addPorch_16 : decode cX2_addPorch 16 = .ok (.getfield 24, 3) := by decide +kernel
theorem dX2_addPorch_19 : decode cX2_addPorch 19 = .ok (.iload_n 1, 1) := by decide +kernel
theorem dX2_addPorch_20 : decode cX2_addPorch 20 = .ok (.iastore, 1) := by decide +kernel
theorem dX2_addPorch_21 : decode cX2_addPorch 21 = .ok (.aload_n 0, 1) := by decide +kernel
theorem dX2_addPorch_22 : decode cX2_addPorch 22 = .ok (.getfield 34, 3) := by decide +kernel
theorem dX2_addPorch_25 : decode cX2_addPorch 25 = .ok (.aload_n 0, 1) := by decide +kernel
theorem dX2_addPorch_26 : decode cX2_addPorch 26 = .ok (.getfield 24, 3) := by decide +kernel
theorem dX2_addPorch_29 : decode cX2_addPorch 29 = .ok (.iload_n 2, 1) := by decide +kernel
theorem dX2_addPorch_30 : decode cX2_addPorch 30 = .ok (.iastore, 1) := by decide +kernel
theorem dX2_addPorch_31 : decode cX2_addPorch 31 = .ok (.aload_n 0, 1) := by decide +kernel
theorem dX2_addPorch_32 : decode cX2_addPorch 32 = .ok (.getfield 37, 3) := by decide +kernel
theorem dX2_addPorch_35 : decode cX2_addPorch 35 = .ok (.aload_n 0, 1) := by decide +kernel
theorem dX2_addPorch_36 : decode cX2_addPorch 36 = .ok (.getfield 24, 3) := by decide +kernel
theorem dX2_addPorch_39 : decode cX2_addPorch 39 = .ok (.iconst 0, 1) := by decide +kernel
theorem dX2_addPorch_40 : decode cX2_addPorch 40 = .ok (.iastore, 1) := by decide +kernel
theorem dX2_addPorch_41 : decode cX2_addPorch 41 = .ok (.aload_n 0, 1) := by decide +kernel
theorem dX2_addPorch_42 : decode cX2_addPorch 42 = .ok (.getfield 40, 3) := by decide +kernel
theorem dX2_addPorch_45 : decode cX2_addPorch 45 = .ok (.aload_n 0, 1) := by decide +kernel
theorem dX2_addPorch_46 : decode cX2_addPorch 46 = .ok (.getfield 24, 3) := by decide +kernel
theorem dX2_addPorch_49 : decode cX2_addPorch 49 = .ok (.iconst (-1), 1) := by decide +kernel
theorem dX2_addPorch_50 : decode cX2_addPorch 50 = .ok (.iastore, 1) := by decide +kernel
theorem dX2_addPorch_51 : decode cX2_addPorch 51 = .ok (.aload_n 0, 1) := by decide +kernel
theorem dX2_addPorch_52 : decode cX2_addPorch 52 = .ok (.getfield 43, 3) := by decide +kernel
theorem dX2_addPorch_55 : decode cX2_addPorch 55 = .ok (.aload_n 0, 1) := by decide +kernel
theorem dX2_addPorch_56 : decode cX2_addPorch 56 = .ok (.getfield 24, 3) := by decide +kernel
theorem dX2_addPorch_59 : decode cX2_addPorch 59 = .ok (.iconst 0, 1) := by decide +kernel
theorem dX2_addPorch_60 : decode cX2_addPorch 60 = .ok (.iastore, 1) := by decide +kernel
theorem dX2_addPorch_61 : decode cX2_addPorch 61 = .ok (.aload_n 0, 1) := by decide +kernel
theorem dX2_addPorch_62 : decode cX2_addPorch 62 = .ok (.dup, 1) := by decide +kernel
theorem dX2_addPorch_63 : decode cX2_addPorch 63 = .ok (.getfield 24, 3) := by decide +kernel
theorem dX2_addPorch_66 : decode cX2_addPorch 66 = .ok (.iconst 1, 1) := by decide +kernel
theorem dX2_addPorch_67 : decode cX2_addPorch 67 = .ok (.iadd, 1) := by decide +kernel
theorem dX2_addPorch_68 : decode cX2_addPorch 68 = .ok (.putfield 24, 3) := by decide +kernel
theorem dX2_addPorch_71 : decode cX2_addPorch 71 = .ok (.aload_n 0, 1) := by decide +kernel
theorem dX2_addPorch_72 : decode cX2_addPorch 72 = .ok (.getfield 24, 3) := by decide +kernel
theorem dX2_addPorch_75 : decode cX2_addPorch 75 = .ok (.iconst 1, 1) := by decide +kernel
theorem dX2_addPorch_76 : decode cX2_addPorch 76 = .ok (.isub, 1) := by decide +kernel
theorem dX2_addPorch_77 : decode cX2_addPorch 77 = .ok (.ireturn, 1) := by decide +kernel
theorem dX2_addPerson_0 : decode cX2_addPerson 0 = .ok (.aload_n 0, 1) := by decide +kernel
theorem dX2_addPerson_1 : decode cX2_addPerson 1 = .ok (.getfield 27, 3) := by decide +kernel
theorem dX2_addPerson_4 : decode cX2_addPerson 4 = .ok (.bipush 20, 2) := by decide +kernel
theorem dX2_addPerson_6 : decode cX2_addPerson 6 = .ok (.if_icmp .lt 5, 3) := by decide +kernel
theorem dX2_addPerson_9 : decode cX2_addPerson 9 = .ok (.iconst (-1), 1) := by decide +kernel
theorem dX2_addPerson_10 : decode cX2_addPerson 10 = .ok (.ireturn, 1) := by decide +kernel
theorem dX2_addPerson_11 : decode cX2_addPerson 11 = .ok (.aload_n 0, 1) := by decide +kernel
theorem dX2_addPerson_12 : decode cX2_addPerson 12 = .ok (.getfield 46, 3) := by decide +kernel
theorem dX2_addPerson_15 : decode cX2_addPerson 15 = .ok (.aload_n 0, 1) := by decide +kernel
theorem dX2_addPerson_16 : decode cX2_addPerson 16 = .ok (.getfield 27, 3) := by decide +kernel
theorem dX2_addPerson_19 : decode cX2_addPerson 19 = .ok (.iload_n 1, 1) := by decide +kernel
theorem dX2_addPerson_20 : decode cX2_addPerson 20 = .ok (.iastore, 1) := by decide +kernel
theorem dX2_addPerson_21 : decode cX2_addPerson 21 = .ok (.aload_n 0, 1) := by decide +kernel
theorem dX2_addPerson_22 : decode cX2_addPerson 22 = .ok (.getfield 49, 3) := by decide +kernel
theorem dX2_addPerson_25 : decode cX2_addPerson 25 = .ok (.aload_n 0, 1) := by decide +kernel
theorem dX2_addPerson_26 : decode cX2_addPerson 26 = .ok (.getfield 27, 3) := by decide +kernel
theorem dX2_addPerson_29 : decode cX2_addPerson 29 = .ok (.iload_n 2, 1) := by decide +kernel
theorem dX2_addPerson_30 : decode cX2_addPerson 30 = .ok (.iastore, 1) := by decide +kernel
theorem dX2_addPerson_31 : decode cX2_addPerson 31 = .ok (.aload_n 0, 1) := by decide +kernel
theorem dX2_addPerson_32 : decode cX2_addPerson 32 = .ok (.getfield 52, 3) := by decide +kernel
theorem dX2_addPerson_35 : decode cX2_addPerson 35 = .ok (.aload_n 0, 1) := by decide +kernel
theorem dX2_addPerson_36 : decode cX2_addPerson 36 = .ok (.getfield 27, 3) := by decide +kernel
theorem dX2_addPerson_39 : decode cX2_addPerson 39 = .ok (.iconst (-1), 1) := by decide +kernel
theorem dX2_addPerson_40 : decode cX2_addPerson 40 = .ok (.iastore, 1) := by decide +kernel
theorem dX2_addPerson_41 : decode cX2_addPerson 41 = .ok (.aload_n 0, 1) := by decide +kernel
theorem dX2_addPerson_42 : decode cX2_addPerson 42 = .ok (.getfield 55, 3) := by decide +kernel
theorem dX2_addPerson_45 : decode cX2_addPerson 45 = .ok (.aload_n 0, 1) := by decide +kernel
theorem dX2_addPerson_46 : decode cX2_addPerson 46 = .ok (.getfield 27, 3) := by decide +kernel
theorem dX2_addPerson_49 : decode cX2_addPerson 49 = .ok (.iconst 0, 1) := by decide +kernel
theorem dX2_addPerson_50 : decode cX2_addPerson 50 = .ok (.iastore, 1) := by decide +kernel
theorem dX2_addPerson_51 : decode cX2_addPerson 51 = .ok (.aload_n 0, 1) := by decide +kernel
theorem dX2_addPerson_52 : decode cX2_addPerson 52 = .ok (.getfield 58, 3) := by decide +kernel
theorem dX2_addPerson_55 : decode cX2_addPerson 55 = .ok (.aload_n 0, 1) := by decide +kernel
theorem dX2_addPerson_56 : decode cX2_addPerson 56 = .ok (.getfield 27, 3) := by decide +kernel
theorem dX2_addPerson_59 : decode cX2_addPerson 59 = .ok (.iconst 0, 1) := by decide +kernel
theorem dX2_addPerson_60 : decode cX2_addPerson 60 = .ok (.iastore, 1) := by decide +kernel
theorem dX2_addPerson_61 : decode cX2_addPerson 61 = .ok (.aload_n 0, 1) := by decide +kernel
theorem dX2_addPerson_62 : decode cX2_addPerson 62 = .ok (.getfield 61, 3) := by decide +kernel
theorem dX2_addPerson_65 : decode cX2_addPerson 65 = .ok (.aload_n 0, 1) := by decide +kernel
theorem dX2_addPerson_66 : decode cX2_addPerson 66 = .ok (.getfield 27, 3) := by decide +kernel
theorem dX2_addPerson_69 : decode cX2_addPerson 69 = .ok (.iconst 0, 1) := by decide +kernel
theorem dX2_addPerson_70 : decode cX2_addPerson 70 = .ok (.iastore, 1) := by decide +kernel
theorem dX2_addPerson_71 : decode cX2_addPerson 71 = .ok (.aload_n 0, 1) := by decide +kernel
theorem dX2_addPerson_72 : decode cX2_addPerson 72 = .ok (.getfield 64, 3) := by decide +kernel
theorem dX2_addPerson_75 : decode cX2_addPerson 75 = .ok (.aload_n 0, 1) := by decide +kernel
theorem dX2_addPerson_76 : decode cX2_addPerson 76 = .ok (.getfield 27, 3) := by decide +kernel
theorem dX2_addPerson_79 : decode cX2_addPerson 79 = .ok (.iconst 0, 1) := by decide +kernel
theorem dX2_addPerson_80 : decode cX2_addPerson 80 = .ok (.iastore, 1) := by decide +kernel
theorem dX2_addPerson_81 : decode cX2_addPerson 81 = .ok (.aload_n 0, 1) := by decide +kernel
theorem dX2_addPerson_82 : decode cX2_addPerson 82 = .ok (.getfield 67, 3) := by decide +kernel
theorem dX2_addPerson_85 : decode cX2_addPerson 85 = .ok (.aload_n 0, 1) := by decide +kernel
theorem dX2_addPerson_86 : decode cX2_addPerson 86 = .ok (.getfield 27, 3) := by decide +kernel
theorem dX2_addPerson_89 : decode cX2_addPerson 89 = .ok (.iconst (-1), 1) := by decide +kernel
theorem dX2_addPerson_90 : decode cX2_addPerson 90 = .ok (.iastore, 1) := by decide +kernel
theorem dX2_addPerson_91 : decode cX2_addPerson 91 = .ok (.aload_n 0, 1) := by decide +kernel
theorem dX2_addPerson_92 : decode cX2_addPerson 92 = .ok (.dup, 1) := by decide +kernel
theorem dX2_addPerson_93 : decode cX2_addPerson 93 = .ok (.getfield 27, 3) := by decide +kernel
theorem dX2_addPerson_96 : decode cX2_addPerson 96 = .ok (.iconst 1, 1) := by decide +kernel
theorem dX2_addPerson_97 : decode cX2_addPerson 97 = .ok (.iadd, 1) := by decide +kernel
theorem dX2_addPerson_98 : decode cX2_addPerson 98 = .ok (.putfield 27, 3) := by decide +kernel
theorem dX2_addPerson_101 : decode cX2_addPerson 101 = .ok (.aload_n 0, 1) := by decide +kernel
theorem dX2_addPerson_102 : decode cX2_addPerson 102 = .ok (.getfield 27, 3) := by decide +kernel
theorem dX2_addPerson_105 : decode cX2_addPerson 105 = .ok (.iconst 1, 1) := by decide +kernel
theorem dX2_addPerson_106 : decode cX2_addPerson 106 = .ok (.isub, 1) := by decide +kernel
theorem dX2_addPerson_107 : decode cX2_addPerson 107 = .ok (.ireturn, 1) := by decide +kernel
theorem dX2_sittersOf_0 : decode cX2_sittersOf 0 = .ok (.iconst 0, 1) := by decide +kernel
theorem dX2_sittersOf_1 : decode cX2_sittersOf 1 = .ok (.istore_n 2, 1) := by decide +kernel
theorem dX2_sittersOf_2 : decode cX2_sittersOf 2 = .ok (.iconst 0, 1) := by decide +kernel
theorem dX2_sittersOf_3 : decode cX2_sittersOf 3 = .ok (.istore_n 3, 1) := by decide +kernel
theorem dX2_sittersOf_4 : decode cX2_sittersOf 4 = .ok (.iload_n 3, 1) := by decide +kernel
theorem dX2_sittersOf_5 : decode cX2_sittersOf 5 = .ok (.aload_n 0, 1) := by decide +kernel
theorem dX2_sittersOf_6 : decode cX2_sittersOf 6 = .ok (.getfield 27, 3) := by decide +kernel
theorem dX2_sittersOf_9 : decode cX2_sittersOf 9 = .ok (.if_icmp .ge 25, 3) := by decide +kernel
theorem dX2_sittersOf_12 : decode cX2_sittersOf 12 = .ok (.aload_n 0, 1) := by decide +kernel
theorem dX2_sittersOf_13 : decode cX2_sittersOf 13 = .ok (.getfield 52, 3) := by decide +kernel
theorem dX2_sittersOf_16 : decode cX2_sittersOf 16 = .ok (.iload_n 3, 1) := by decide +kernel
theorem dX2_sittersOf_17 : decode cX2_sittersOf 17 = .ok (.iaload, 1) := by decide +kernel
theorem dX2_sittersOf_18 : decode cX2_sittersOf 18 = .ok (.iload_n 1, 1) := by decide +kernel
theorem dX2_sittersOf_19 : decode cX2_sittersOf 19 = .ok (.if_icmp .ne 9, 3) := by decide +kernel
theorem dX2_sittersOf_22 : decode cX2_sittersOf 22 = .ok (.iload_n 2, 1) := by decide +kernel
theorem dX2_sittersOf_23 : decode cX2_sittersOf 23 = .ok (.iconst 1, 1) := by decide +kernel
theorem dX2_sittersOf_24 : decode cX2_sittersOf 24 = .ok (.iload_n 3, 1) := by decide +kernel
theorem dX2_sittersOf_25 : decode cX2_sittersOf 25 = .ok (.ishl, 1) := by decide +kernel
theorem dX2_sittersOf_26 : decode cX2_sittersOf 26 = .ok (.ior, 1) := by decide +kernel
theorem dX2_sittersOf_27 : decode cX2_sittersOf 27 = .ok (.istore_n 2, 1) := by decide +kernel
theorem dX2_sittersOf_28 : decode cX2_sittersOf 28 = .ok (.iinc 3 1, 3) := by decide +kernel
theorem dX2_sittersOf_31 : decode cX2_sittersOf 31 = .ok (.goto (-27), 3) := by decide +kernel
theorem dX2_sittersOf_34 : decode cX2_sittersOf 34 = .ok (.iload_n 2, 1) := by decide +kernel
theorem dX2_sittersOf_35 : decode cX2_sittersOf 35 = .ok (.ireturn, 1) := by decide +kernel
theorem dX2_allSitters_0 : decode cX2_allSitters 0 = .ok (.iconst 0, 1) := by decide +kernel
theorem dX2_allSitters_1 : decode cX2_allSitters 1 = .ok (.istore_n 1, 1) := by decide +kernel
theorem dX2_allSitters_2 : decode cX2_allSitters 2 = .ok (.iconst 0, 1) := by decide +kernel
theorem dX2_allSitters_3 : decode cX2_allSitters 3 = .ok (.istore_n 2, 1) := by decide +kernel
theorem dX2_allSitters_4 : decode cX2_allSitters 4 = .ok (.iload_n 2, 1) := by decide +kernel
theorem dX2_allSitters_5 : decode cX2_allSitters 5 = .ok (.aload_n 0, 1) := by decide +kernel
theorem dX2_allSitters_6 : decode cX2_allSitters 6 = .ok (.getfield 27, 3) := by decide +kernel
theorem dX2_allSitters_9 : decode cX2_allSitters 9 = .ok (.if_icmp .ge 25, 3) := by decide +kernel
theorem dX2_allSitters_12 : decode cX2_allSitters 12 = .ok (.aload_n 0, 1) := by decide +kernel
theorem dX2_allSitters_13 : decode cX2_allSitters 13 = .ok (.getfield 52, 3) := by decide +kernel
theorem dX2_allSitters_16 : decode cX2_allSitters 16 = .ok (.iload_n 2, 1) := by decide +kernel
theorem dX2_allSitters_17 : decode cX2_allSitters 17 = .ok (.iaload, 1) := by decide +kernel
theorem dX2_allSitters_18 : decode cX2_allSitters 18 = .ok (.iconst (-1), 1) := by decide +kernel
theorem dX2_allSitters_19 : decode cX2_allSitters 19 = .ok (.if_icmp .eq 9, 3) := by decide +kernel
theorem dX2_allSitters_22 : decode cX2_allSitters 22 = .ok (.iload_n 1, 1) := by decide +kernel
theorem dX2_allSitters_23 : decode cX2_allSitters 23 = .ok (.iconst 1, 1) := by decide +kernel
theorem dX2_allSitters_24 : decode cX2_allSitters 24 = .ok (.iload_n 2, 1) := by decide +kernel
theorem dX2_allSitters_25 : decode cX2_allSitters 25 = .ok (.ishl, 1) := by decide +kernel
theorem dX2_allSitters_26 : decode cX2_allSitters 26 = .ok (.ior, 1) := by decide +kernel
theorem dX2_allSitters_27 : decode cX2_allSitters 27 = .ok (.istore_n 1, 1) := by decide +kernel
theorem dX2_allSitters_28 : decode cX2_allSitters 28 = .ok (.iinc 2 1, 3) := by decide +kernel
theorem dX2_allSitters_31 : decode cX2_allSitters 31 = .ok (.goto (-27), 3) := by decide +kernel
theorem dX2_allSitters_34 : decode cX2_allSitters 34 = .ok (.iload_n 1, 1) := by decide +kernel
theorem dX2_allSitters_35 : decode cX2_allSitters 35 = .ok (.ireturn, 1) := by decide +kernel
theorem dX2_allAccepted_0 : decode cX2_allAccepted 0 = .ok (.iconst 0, 1) := by decide +kernel
theorem dX2_allAccepted_1 : decode cX2_allAccepted 1 = .ok (.istore_n 1, 1) := by decide +kernel
theorem dX2_allAccepted_2 : decode cX2_allAccepted 2 = .ok (.iconst 0, 1) := by decide +kernel
theorem dX2_allAccepted_3 : decode cX2_allAccepted 3 = .ok (.istore_n 2, 1) := by decide +kernel
theorem dX2_allAccepted_4 : decode cX2_allAccepted 4 = .ok (.iload_n 2, 1) := by decide +kernel
theorem dX2_allAccepted_5 : decode cX2_allAccepted 5 = .ok (.aload_n 0, 1) := by decide +kernel
theorem dX2_allAccepted_6 : decode cX2_allAccepted 6 = .ok (.getfield 27, 3) := by decide +kernel
theorem dX2_allAccepted_9 : decode cX2_allAccepted 9 = .ok (.if_icmp .ge 25, 3) := by decide +kernel
theorem dX2_allAccepted_12 : decode cX2_allAccepted 12 = .ok (.aload_n 0, 1) := by decide +kernel
theorem dX2_allAccepted_13 : decode cX2_allAccepted 13 = .ok (.getfield 67, 3) := by decide +kernel
theorem dX2_allAccepted_16 : decode cX2_allAccepted 16 = .ok (.iload_n 2, 1) := by decide +kernel
theorem dX2_allAccepted_17 : decode cX2_allAccepted 17 = .ok (.iaload, 1) := by decide +kernel
theorem dX2_allAccepted_18 : decode cX2_allAccepted 18 = .ok (.iconst (-1), 1) := by decide +kernel
theorem dX2_allAccepted_19 : decode cX2_allAccepted 19 = .ok (.if_icmp .eq 9, 3) := by decide +kernel
theorem dX2_allAccepted_22 : decode cX2_allAccepted 22 = .ok (.iload_n 1, 1) := by decide +kernel
theorem dX2_allAccepted_23 : decode cX2_allAccepted 23 = .ok (.iconst 1, 1) := by decide +kernel
theorem dX2_allAccepted_24 : decode cX2_allAccepted 24 = .ok (.iload_n 2, 1) := by decide +kernel
theorem dX2_allAccepted_25 : decode cX2_allAccepted 25 = .ok (.ishl, 1) := by decide +kernel
theorem dX2_allAccepted_26 : decode cX2_allAccepted 26 = .ok (.ior, 1) := by decide +kernel
theorem dX2_allAccepted_27 : decode cX2_allAccepted 27 = .ok (.istore_n 1, 1) := by decide +kernel
theorem dX2_allAccepted_28 : decode cX2_allAccepted 28 = .ok (.iinc 2 1, 3) := by decide +kernel
theorem dX2_allAccepted_31 : decode cX2_allAccepted 31 = .ok (.goto (-27), 3) := by decide +kernel
theorem dX2_allAccepted_34 : decode cX2_allAccepted 34 = .ok (.iload_n 1, 1) := by decide +kernel
theorem dX2_allAccepted_35 : decode cX2_allAccepted 35 = .ok (.ireturn, 1) := by decide +kernel
theorem dX2_hasFreeChair_0 : decode cX2_hasFreeChair 0 = .ok (.aload_n 0, 1) := by decide +kernel
theorem dX2_hasFreeChair_1 : decode cX2_hasFreeChair 1 = .ok (.iload_n 1, 1) := by decide +kernel
theorem dX2_hasFreeChair_2 : decode cX2_hasFreeChair 2 = .ok (.invokevirtual 70, 3) := by decide +kernel
theorem dX2_hasFreeChair_5 : decode cX2_hasFreeChair 5 = .ok (.ifCond .eq 22, 3) := by decide +kernel
theorem dX2_hasFreeChair_8 : decode cX2_hasFreeChair 8 = .ok (.aload_n 0, 1) := by decide +kernel
theorem dX2_hasFreeChair_9 : decode cX2_hasFreeChair 9 = .ok (.getfield 43, 3) := by decide +kernel
theorem dX2_hasFreeChair_12 : decode cX2_hasFreeChair 12 = .ok (.iload_n 1, 1) := by decide +kernel
theorem dX2_hasFreeChair_13 : decode cX2_hasFreeChair 13 = .ok (.iaload, 1) := by decide +kernel
theorem dX2_hasFreeChair_14 : decode cX2_hasFreeChair 14 = .ok (.aload_n 0, 1) := by decide +kernel
theorem dX2_hasFreeChair_15 : decode cX2_hasFreeChair 15 = .ok (.getfield 30, 3) := by decide +kernel
theorem dX2_hasFreeChair_18 : decode cX2_hasFreeChair 18 = .ok (.iload_n 1, 1) := by decide +kernel
theorem dX2_hasFreeChair_19 : decode cX2_hasFreeChair 19 = .ok (.iaload, 1) := by decide +kernel
theorem dX2_hasFreeChair_20 : decode cX2_hasFreeChair 20 = .ok (.if_icmp .ge 7, 3) := by decide +kernel
theorem dX2_hasFreeChair_23 : decode cX2_hasFreeChair 23 = .ok (.iconst 1, 1) := by decide +kernel
theorem dX2_hasFreeChair_24 : decode cX2_hasFreeChair 24 = .ok (.goto 4, 3) := by decide +kernel
theorem dX2_hasFreeChair_27 : decode cX2_hasFreeChair 27 = .ok (.iconst 0, 1) := by decide +kernel
theorem dX2_hasFreeChair_28 : decode cX2_hasFreeChair 28 = .ok (.ireturn, 1) := by decide +kernel
theorem dX2_sitDown_0 : decode cX2_sitDown 0 = .ok (.aload_n 0, 1) := by decide +kernel
theorem dX2_sitDown_1 : decode cX2_sitDown 1 = .ok (.iload_n 1, 1) := by decide +kernel
theorem dX2_sitDown_2 : decode cX2_sitDown 2 = .ok (.invokevirtual 74, 3) := by decide +kernel
theorem dX2_sitDown_5 : decode cX2_sitDown 5 = .ok (.ifCond .eq 11, 3) := by decide +kernel
theorem dX2_sitDown_8 : decode cX2_sitDown 8 = .ok (.aload_n 0, 1) := by decide +kernel
theorem dX2_sitDown_9 : decode cX2_sitDown 9 = .ok (.iload_n 2, 1) := by decide +kernel
theorem dX2_sitDown_10 : decode cX2_sitDown 10 = .ok (.invokevirtual 70, 3) := by decide +kernel
theorem dX2_sitDown_13 : decode cX2_sitDown 13 = .ok (.ifCond .ne 4, 3) := by decide +kernel
theorem dX2_sitDown_16 : decode cX2_sitDown 16 = .ok (.return_, 1) := by decide +kernel
theorem dX2_sitDown_17 : decode cX2_sitDown 17 = .ok (.aload_n 0, 1) := by decide +kernel
theorem dX2_sitDown_18 : decode cX2_sitDown 18 = .ok (.getfield 52, 3) := by decide +kernel
theorem dX2_sitDown_21 : decode cX2_sitDown 21 = .ok (.iload_n 1, 1) := by decide +kernel
theorem dX2_sitDown_22 : decode cX2_sitDown 22 = .ok (.iload_n 2, 1) := by decide +kernel
theorem dX2_sitDown_23 : decode cX2_sitDown 23 = .ok (.iastore, 1) := by decide +kernel
theorem dX2_sitDown_24 : decode cX2_sitDown 24 = .ok (.aload_n 0, 1) := by decide +kernel
theorem dX2_sitDown_25 : decode cX2_sitDown 25 = .ok (.getfield 55, 3) := by decide +kernel
theorem dX2_sitDown_28 : decode cX2_sitDown 28 = .ok (.iload_n 1, 1) := by decide +kernel
theorem dX2_sitDown_29 : decode cX2_sitDown 29 = .ok (.iconst 0, 1) := by decide +kernel
theorem dX2_sitDown_30 : decode cX2_sitDown 30 = .ok (.iastore, 1) := by decide +kernel
theorem dX2_sitDown_31 : decode cX2_sitDown 31 = .ok (.aload_n 0, 1) := by decide +kernel
theorem dX2_sitDown_32 : decode cX2_sitDown 32 = .ok (.getfield 58, 3) := by decide +kernel
theorem dX2_sitDown_35 : decode cX2_sitDown 35 = .ok (.iload_n 1, 1) := by decide +kernel
theorem dX2_sitDown_36 : decode cX2_sitDown 36 = .ok (.iload_n 3, 1) := by decide +kernel
theorem dX2_sitDown_37 : decode cX2_sitDown 37 = .ok (.iastore, 1) := by decide +kernel
theorem dX2_sitDown_38 : decode cX2_sitDown 38 = .ok (.aload_n 0, 1) := by decide +kernel
theorem dX2_sitDown_39 : decode cX2_sitDown 39 = .ok (.getfield 43, 3) := by decide +kernel
theorem dX2_sitDown_42 : decode cX2_sitDown 42 = .ok (.iload_n 2, 1) := by decide +kernel
theorem dX2_sitDown_43 : decode cX2_sitDown 43 = .ok (.dup2, 1) := by decide +kernel
theorem dX2_sitDown_44 : decode cX2_sitDown 44 = .ok (.iaload, 1) := by decide +kernel
theorem dX2_sitDown_45 : decode cX2_sitDown 45 = .ok (.iconst 1, 1) := by decide +kernel
theorem dX2_sitDown_46 : decode cX2_sitDown 46 = .ok (.iadd, 1) := by decide +kernel
theorem dX2_sitDown_47 : decode cX2_sitDown 47 = .ok (.iastore, 1) := by decide +kernel
theorem dX2_sitDown_48 : decode cX2_sitDown 48 = .ok (.return_, 1) := by decide +kernel
theorem dX2_rise_0 : decode cX2_rise 0 = .ok (.aload_n 0, 1) := by decide +kernel
theorem dX2_rise_1 : decode cX2_rise 1 = .ok (.iload_n 1, 1) := by decide +kernel
theorem dX2_rise_2 : decode cX2_rise 2 = .ok (.invokevirtual 74, 3) := by decide +kernel
theorem dX2_rise_5 : decode cX2_rise 5 = .ok (.ifCond .eq 16, 3) := by decide +kernel
theorem dX2_rise_8 : decode cX2_rise 8 = .ok (.aload_n 0, 1) := by decide +kernel
theorem dX2_rise_9 : decode cX2_rise 9 = .ok (.aload_n 0, 1) := by decide +kernel
theorem dX2_rise_10 : decode cX2_rise 10 = .ok (.getfield 52, 3) := by decide +kernel
theorem dX2_rise_13 : decode cX2_rise 13 = .ok (.iload_n 1, 1) := by decide +kernel
theorem dX2_rise_14 : decode cX2_rise 14 = .ok (.iaload, 1) := by decide +kernel
theorem dX2_rise_15 : decode cX2_rise 15 = .ok (.invokevirtual 70, 3) := by decide +kernel
theorem dX2_rise_18 : decode cX2_rise 18 = .ok (.ifCond .ne 4, 3) := by decide +kernel
theorem dX2_rise_21 : decode cX2_rise 21 = .ok (.return_, 1) := by decide +kernel
theorem dX2_rise_22 : decode cX2_rise 22 = .ok (.aload_n 0, 1) := by decide +kernel
theorem dX2_rise_23 : decode cX2_rise 23 = .ok (.getfield 43, 3) := by decide +kernel
theorem dX2_rise_26 : decode cX2_rise 26 = .ok (.aload_n 0, 1) := by decide +kernel
theorem dX2_rise_27 : decode cX2_rise 27 = .ok (.getfield 52, 3) := by decide +kernel
theorem dX2_rise_30 : decode cX2_rise 30 = .ok (.iload_n 1, 1) := by decide +kernel
theorem dX2_rise_31 : decode cX2_rise 31 = .ok (.iaload, 1) := by decide +kernel
theorem dX2_rise_32 : decode cX2_rise 32 = .ok (.dup2, 1) := by decide +kernel
theorem dX2_rise_33 : decode cX2_rise 33 = .ok (.iaload, 1) := by decide +kernel
theorem dX2_rise_34 : decode cX2_rise 34 = .ok (.iconst 1, 1) := by decide +kernel
theorem dX2_rise_35 : decode cX2_rise 35 = .ok (.isub, 1) := by decide +kernel
theorem dX2_rise_36 : decode cX2_rise 36 = .ok (.iastore, 1) := by decide +kernel
theorem dX2_rise_37 : decode cX2_rise 37 = .ok (.aload_n 0, 1) := by decide +kernel
theorem dX2_rise_38 : decode cX2_rise 38 = .ok (.getfield 52, 3) := by decide +kernel
theorem dX2_rise_41 : decode cX2_rise 41 = .ok (.iload_n 1, 1) := by decide +kernel
theorem dX2_rise_42 : decode cX2_rise 42 = .ok (.iconst (-1), 1) := by decide +kernel
theorem dX2_rise_43 : decode cX2_rise 43 = .ok (.iastore, 1) := by decide +kernel
theorem dX2_rise_44 : decode cX2_rise 44 = .ok (.aload_n 0, 1) := by decide +kernel
theorem dX2_rise_45 : decode cX2_rise 45 = .ok (.getfield 55, 3) := by decide +kernel
theorem dX2_rise_48 : decode cX2_rise 48 = .ok (.iload_n 1, 1) := by decide +kernel
theorem dX2_rise_49 : decode cX2_rise 49 = .ok (.iconst 0, 1) := by decide +kernel
theorem dX2_rise_50 : decode cX2_rise 50 = .ok (.iastore, 1) := by decide +kernel
theorem dX2_rise_51 : decode cX2_rise 51 = .ok (.aload_n 0, 1) := by decide +kernel
theorem dX2_rise_52 : decode cX2_rise 52 = .ok (.getfield 58, 3) := by decide +kernel
theorem dX2_rise_55 : decode cX2_rise 55 = .ok (.iload_n 1, 1) := by decide +kernel
theorem dX2_rise_56 : decode cX2_rise 56 = .ok (.iconst 0, 1) := by decide +kernel
theorem dX2_rise_57 : decode cX2_rise 57 = .ok (.iastore, 1) := by decide +kernel
theorem dX2_rise_58 : decode cX2_rise 58 = .ok (.return_, 1) := by decide +kernel
theorem dX2_draw_0 : decode cX2_draw 0 = .ok (.aload_n 0, 1) := by decide +kernel
theorem dX2_draw_1 : decode cX2_draw 1 = .ok (.ldc 77, 2) := by decide +kernel
theorem dX2_draw_3 : decode cX2_draw 3 = .ok (.aload_n 0, 1) := by decide +kernel
theorem dX2_draw_4 : decode cX2_draw 4 = .ok (.getfield 9, 3) := by decide +kernel
theorem dX2_draw_7 : decode cX2_draw 7 = .ok (.imul, 1) := by decide +kernel
theorem dX2_draw_8 : decode cX2_draw 8 = .ok (.ldc 78, 2) := by decide +kernel
theorem dX2_draw_10 : decode cX2_draw 10 = .ok (.iadd, 1) := by decide +kernel
theorem dX2_draw_11 : decode cX2_draw 11 = .ok (.putfield 9, 3) := by decide +kernel
theorem dX2_draw_14 : decode cX2_draw 14 = .ok (.iload_n 1, 1) := by decide +kernel
theorem dX2_draw_15 : decode cX2_draw 15 = .ok (.ifCond .le 15, 3) := by decide +kernel
theorem dX2_draw_18 : decode cX2_draw 18 = .ok (.aload_n 0, 1) := by decide +kernel
theorem dX2_draw_19 : decode cX2_draw 19 = .ok (.getfield 9, 3) := by decide +kernel
theorem dX2_draw_22 : decode cX2_draw 22 = .ok (.bipush 8, 2) := by decide +kernel
theorem dX2_draw_24 : decode cX2_draw 24 = .ok (.iushr, 1) := by decide +kernel
theorem dX2_draw_25 : decode cX2_draw 25 = .ok (.iload_n 1, 1) := by decide +kernel
theorem dX2_draw_26 : decode cX2_draw 26 = .ok (.irem, 1) := by decide +kernel
theorem dX2_draw_27 : decode cX2_draw 27 = .ok (.goto 4, 3) := by decide +kernel
theorem dX2_draw_30 : decode cX2_draw 30 = .ok (.iconst 0, 1) := by decide +kernel
theorem dX2_draw_31 : decode cX2_draw 31 = .ok (.ireturn, 1) := by decide +kernel
theorem dX2_sumOf_0 : decode cX2_sumOf 0 = .ok (.iconst 0, 1) := by decide +kernel
theorem dX2_sumOf_1 : decode cX2_sumOf 1 = .ok (.istore_n 2, 1) := by decide +kernel
theorem dX2_sumOf_2 : decode cX2_sumOf 2 = .ok (.iconst 0, 1) := by decide +kernel
theorem dX2_sumOf_3 : decode cX2_sumOf 3 = .ok (.istore_n 3, 1) := by decide +kernel
theorem dX2_sumOf_4 : decode cX2_sumOf 4 = .ok (.iload_n 3, 1) := by decide +kernel
theorem dX2_sumOf_5 : decode cX2_sumOf 5 = .ok (.aload_n 0, 1) := by decide +kernel
theorem dX2_sumOf_6 : decode cX2_sumOf 6 = .ok (.getfield 27, 3) := by decide +kernel
theorem dX2_sumOf_9 : decode cX2_sumOf 9 = .ok (.if_icmp .ge 36, 3) := by decide +kernel
theorem dX2_sumOf_12 : decode cX2_sumOf 12 = .ok (.iload_n 1, 1) := by decide +kernel
theorem dX2_sumOf_13 : decode cX2_sumOf 13 = .ok (.ifCond .ne 12, 3) := by decide +kernel
theorem dX2_sumOf_16 : decode cX2_sumOf 16 = .ok (.iload_n 2, 1) := by decide +kernel
theorem dX2_sumOf_17 : decode cX2_sumOf 17 = .ok (.aload_n 0, 1) := by decide +kernel
theorem dX2_sumOf_18 : decode cX2_sumOf 18 = .ok (.getfield 61, 3) := by decide +kernel
theorem dX2_sumOf_21 : decode cX2_sumOf 21 = .ok (.iload_n 3, 1) := by decide +kernel
theorem dX2_sumOf_22 : decode cX2_sumOf 22 = .ok (.iaload, 1) := by decide +kernel
theorem dX2_sumOf_23 : decode cX2_sumOf 23 = .ok (.iadd, 1) := by decide +kernel
theorem dX2_sumOf_24 : decode cX2_sumOf 24 = .ok (.istore_n 2, 1) := by decide +kernel
theorem dX2_sumOf_25 : decode cX2_sumOf 25 = .ok (.iload_n 1, 1) := by decide +kernel
theorem dX2_sumOf_26 : decode cX2_sumOf 26 = .ok (.iconst 1, 1) := by decide +kernel
theorem dX2_sumOf_27 : decode cX2_sumOf 27 = .ok (.if_icmp .ne 12, 3) := by decide +kernel
theorem dX2_sumOf_30 : decode cX2_sumOf 30 = .ok (.iload_n 2, 1) := by decide +kernel
theorem dX2_sumOf_31 : decode cX2_sumOf 31 = .ok (.aload_n 0, 1) := by decide +kernel
theorem dX2_sumOf_32 : decode cX2_sumOf 32 = .ok (.getfield 64, 3) := by decide +kernel
theorem dX2_sumOf_35 : decode cX2_sumOf 35 = .ok (.iload_n 3, 1) := by decide +kernel
theorem dX2_sumOf_36 : decode cX2_sumOf 36 = .ok (.iaload, 1) := by decide +kernel
theorem dX2_sumOf_37 : decode cX2_sumOf 37 = .ok (.iadd, 1) := by decide +kernel
theorem dX2_sumOf_38 : decode cX2_sumOf 38 = .ok (.istore_n 2, 1) := by decide +kernel
theorem dX2_sumOf_39 : decode cX2_sumOf 39 = .ok (.iinc 3 1, 3) := by decide +kernel
theorem dX2_sumOf_42 : decode cX2_sumOf 42 = .ok (.goto (-38), 3) := by decide +kernel
theorem dX2_sumOf_45 : decode cX2_sumOf 45 = .ok (.iconst 0, 1) := by decide +kernel
theorem dX2_sumOf_46 : decode cX2_sumOf 46 = .ok (.istore_n 3, 1) := by decide +kernel
theorem dX2_sumOf_47 : decode cX2_sumOf 47 = .ok (.iload_n 3, 1) := by decide +kernel
theorem dX2_sumOf_48 : decode cX2_sumOf 48 = .ok (.aload_n 0, 1) := by decide +kernel
theorem dX2_sumOf_49 : decode cX2_sumOf 49 = .ok (.getfield 24, 3) := by decide +kernel
theorem dX2_sumOf_52 : decode cX2_sumOf 52 = .ok (.if_icmp .ge 37, 3) := by decide +kernel
theorem dX2_sumOf_55 : decode cX2_sumOf 55 = .ok (.iload_n 1, 1) := by decide +kernel
theorem dX2_sumOf_56 : decode cX2_sumOf 56 = .ok (.iconst 2, 1) := by decide +kernel
theorem dX2_sumOf_57 : decode cX2_sumOf 57 = .ok (.if_icmp .ne 12, 3) := by decide +kernel
theorem dX2_sumOf_60 : decode cX2_sumOf 60 = .ok (.iload_n 2, 1) := by decide +kernel
theorem dX2_sumOf_61 : decode cX2_sumOf 61 = .ok (.aload_n 0, 1) := by decide +kernel
theorem dX2_sumOf_62 : decode cX2_sumOf 62 = .ok (.getfield 37, 3) := by decide +kernel
theorem dX2_sumOf_65 : decode cX2_sumOf 65 = .ok (.iload_n 3, 1) := by decide +kernel
theorem dX2_sumOf_66 : decode cX2_sumOf 66 = .ok (.iaload, 1) := by decide +kernel
theorem dX2_sumOf_67 : decode cX2_sumOf 67 = .ok (.iadd, 1) := by decide +kernel
theorem dX2_sumOf_68 : decode cX2_sumOf 68 = .ok (.istore_n 2, 1) := by decide +kernel
theorem dX2_sumOf_69 : decode cX2_sumOf 69 = .ok (.iload_n 1, 1) := by decide +kernel
theorem dX2_sumOf_70 : decode cX2_sumOf 70 = .ok (.iconst 3, 1) := by decide +kernel
theorem dX2_sumOf_71 : decode cX2_sumOf 71 = .ok (.if_icmp .ne 12, 3) := by decide +kernel
theorem dX2_sumOf_74 : decode cX2_sumOf 74 = .ok (.iload_n 2, 1) := by decide +kernel
theorem dX2_sumOf_75 : decode cX2_sumOf 75 = .ok (.aload_n 0, 1) := by decide +kernel
theorem dX2_sumOf_76 : decode cX2_sumOf 76 = .ok (.getfield 34, 3) := by decide +kernel
theorem dX2_sumOf_79 : decode cX2_sumOf 79 = .ok (.iload_n 3, 1) := by decide +kernel
theorem dX2_sumOf_80 : decode cX2_sumOf 80 = .ok (.iaload, 1) := by decide +kernel
theorem dX2_sumOf_81 : decode cX2_sumOf 81 = .ok (.iadd, 1) := by decide +kernel
theorem dX2_sumOf_82 : decode cX2_sumOf 82 = .ok (.istore_n 2, 1) := by decide +kernel
theorem dX2_sumOf_83 : decode cX2_sumOf 83 = .ok (.iinc 3 1, 3) := by decide +kernel
theorem dX2_sumOf_86 : decode cX2_sumOf 86 = .ok (.goto (-39), 3) := by decide +kernel
theorem dX2_sumOf_89 : decode cX2_sumOf 89 = .ok (.iload_n 2, 1) := by decide +kernel
theorem dX2_sumOf_90 : decode cX2_sumOf 90 = .ok (.ireturn, 1) := by decide +kernel
theorem dX2_copyFrom_0 : decode cX2_copyFrom 0 = .ok (.aload_n 0, 1) := by decide +kernel
theorem dX2_copyFrom_1 : decode cX2_copyFrom 1 = .ok (.aload_n 1, 1) := by decide +kernel
theorem dX2_copyFrom_2 : decode cX2_copyFrom 2 = .ok (.getfield 9, 3) := by decide +kernel
theorem dX2_copyFrom_5 : decode cX2_copyFrom 5 = .ok (.putfield 9, 3) := by decide +kernel
theorem dX2_copyFrom_8 : decode cX2_copyFrom 8 = .ok (.aload_n 0, 1) := by decide +kernel
theorem dX2_copyFrom_9 : decode cX2_copyFrom 9 = .ok (.aload_n 1, 1) := by decide +kernel
theorem dX2_copyFrom_10 : decode cX2_copyFrom 10 = .ok (.getfield 15, 3) := by decide +kernel
theorem dX2_copyFrom_13 : decode cX2_copyFrom 13 = .ok (.putfield 15, 3) := by decide +kernel
theorem dX2_copyFrom_16 : decode cX2_copyFrom 16 = .ok (.aload_n 0, 1) := by decide +kernel
theorem dX2_copyFrom_17 : decode cX2_copyFrom 17 = .ok (.aload_n 1, 1) := by decide +kernel
theorem dX2_copyFrom_18 : decode cX2_copyFrom 18 = .ok (.getfield 18, 3) := by decide +kernel
theorem dX2_copyFrom_21 : decode cX2_copyFrom 21 = .ok (.putfield 18, 3) := by decide +kernel
theorem dX2_copyFrom_24 : decode cX2_copyFrom 24 = .ok (.aload_n 0, 1) := by decide +kernel
theorem dX2_copyFrom_25 : decode cX2_copyFrom 25 = .ok (.aload_n 1, 1) := by decide +kernel
theorem dX2_copyFrom_26 : decode cX2_copyFrom 26 = .ok (.getfield 21, 3) := by decide +kernel
theorem dX2_copyFrom_29 : decode cX2_copyFrom 29 = .ok (.putfield 21, 3) := by decide +kernel
theorem dX2_copyFrom_32 : decode cX2_copyFrom 32 = .ok (.aload_n 0, 1) := by decide +kernel
theorem dX2_copyFrom_33 : decode cX2_copyFrom 33 = .ok (.aload_n 1, 1) := by decide +kernel
theorem dX2_copyFrom_34 : decode cX2_copyFrom 34 = .ok (.getfield 24, 3) := by decide +kernel
theorem dX2_copyFrom_37 : decode cX2_copyFrom 37 = .ok (.putfield 24, 3) := by decide +kernel
theorem dX2_copyFrom_40 : decode cX2_copyFrom 40 = .ok (.aload_n 0, 1) := by decide +kernel
theorem dX2_copyFrom_41 : decode cX2_copyFrom 41 = .ok (.aload_n 1, 1) := by decide +kernel
theorem dX2_copyFrom_42 : decode cX2_copyFrom 42 = .ok (.getfield 27, 3) := by decide +kernel
theorem dX2_copyFrom_45 : decode cX2_copyFrom 45 = .ok (.putfield 27, 3) := by decide +kernel
theorem dX2_copyFrom_48 : decode cX2_copyFrom 48 = .ok (.aload_n 1, 1) := by decide +kernel
theorem dX2_copyFrom_49 : decode cX2_copyFrom 49 = .ok (.getfield 30, 3) := by decide +kernel
theorem dX2_copyFrom_52 : decode cX2_copyFrom 52 = .ok (.iconst 0, 1) := by decide +kernel
theorem dX2_copyFrom_53 : decode cX2_copyFrom 53 = .ok (.aload_n 0, 1) := by decide +kernel
theorem dX2_copyFrom_54 : decode cX2_copyFrom 54 = .ok (.getfield 30, 3) := by decide +kernel
theorem dX2_copyFrom_57 : decode cX2_copyFrom 57 = .ok (.iconst 0, 1) := by decide +kernel
theorem dX2_copyFrom_58 : decode cX2_copyFrom 58 = .ok (.bipush 12, 2) := by decide +kernel
theorem dX2_copyFrom_60 : decode cX2_copyFrom 60 = .ok (.invokestatic 79, 3) := by decide +kernel
theorem dX2_copyFrom_63 : decode cX2_copyFrom 63 = .ok (.aload_n 1, 1) := by decide +kernel
theorem dX2_copyFrom_64 : decode cX2_copyFrom 64 = .ok (.getfield 34, 3) := by decide +kernel
theorem dX2_copyFrom_67 : decode cX2_copyFrom 67 = .ok (.iconst 0, 1) := by decide +kernel
theorem dX2_copyFrom_68 : decode cX2_copyFrom 68 = .ok (.aload_n 0, 1) := by decide +kernel
theorem dX2_copyFrom_69 : decode cX2_copyFrom 69 = .ok (.getfield 34, 3) := by decide +kernel
theorem dX2_copyFrom_72 : decode cX2_copyFrom 72 = .ok (.iconst 0, 1) := by decide +kernel
theorem dX2_copyFrom_73 : decode cX2_copyFrom 73 = .ok (.bipush 12, 2) := by decide +kernel
theorem dX2_copyFrom_75 : decode cX2_copyFrom 75 = .ok (.invokestatic 79, 3) := by decide +kernel
theorem dX2_copyFrom_78 : decode cX2_copyFrom 78 = .ok (.aload_n 1, 1) := by decide +kernel
theorem dX2_copyFrom_79 : decode cX2_copyFrom 79 = .ok (.getfield 37, 3) := by decide +kernel
theorem dX2_copyFrom_82 : decode cX2_copyFrom 82 = .ok (.iconst 0, 1) := by decide +kernel
theorem dX2_copyFrom_83 : decode cX2_copyFrom 83 = .ok (.aload_n 0, 1) := by decide +kernel
theorem dX2_copyFrom_84 : decode cX2_copyFrom 84 = .ok (.getfield 37, 3) := by decide +kernel
theorem dX2_copyFrom_87 : decode cX2_copyFrom 87 = .ok (.iconst 0, 1) := by decide +kernel
theorem dX2_copyFrom_88 : decode cX2_copyFrom 88 = .ok (.bipush 12, 2) := by decide +kernel
theorem dX2_copyFrom_90 : decode cX2_copyFrom 90 = .ok (.invokestatic 79, 3) := by decide +kernel
theorem dX2_copyFrom_93 : decode cX2_copyFrom 93 = .ok (.aload_n 1, 1) := by decide +kernel
theorem dX2_copyFrom_94 : decode cX2_copyFrom 94 = .ok (.getfield 40, 3) := by decide +kernel
theorem dX2_copyFrom_97 : decode cX2_copyFrom 97 = .ok (.iconst 0, 1) := by decide +kernel
theorem dX2_copyFrom_98 : decode cX2_copyFrom 98 = .ok (.aload_n 0, 1) := by decide +kernel
theorem dX2_copyFrom_99 : decode cX2_copyFrom 99 = .ok (.getfield 40, 3) := by decide +kernel
theorem dX2_copyFrom_102 : decode cX2_copyFrom 102 = .ok (.iconst 0, 1) := by decide +kernel
theorem dX2_copyFrom_103 : decode cX2_copyFrom 103 = .ok (.bipush 12, 2) := by decide +kernel
theorem dX2_copyFrom_105 : decode cX2_copyFrom 105 = .ok (.invokestatic 79, 3) := by decide +kernel
theorem dX2_copyFrom_108 : decode cX2_copyFrom 108 = .ok (.aload_n 1, 1) := by decide +kernel
theorem dX2_copyFrom_109 : decode cX2_copyFrom 109 = .ok (.getfield 43, 3) := by decide +kernel
theorem dX2_copyFrom_112 : decode cX2_copyFrom 112 = .ok (.iconst 0, 1) := by decide +kernel
theorem dX2_copyFrom_113 : decode cX2_copyFrom 113 = .ok (.aload_n 0, 1) := by decide +kernel
theorem dX2_copyFrom_114 : decode cX2_copyFrom 114 = .ok (.getfield 43, 3) := by decide +kernel
theorem dX2_copyFrom_117 : decode cX2_copyFrom 117 = .ok (.iconst 0, 1) := by decide +kernel
theorem dX2_copyFrom_118 : decode cX2_copyFrom 118 = .ok (.bipush 12, 2) := by decide +kernel
theorem dX2_copyFrom_120 : decode cX2_copyFrom 120 = .ok (.invokestatic 79, 3) := by decide +kernel
theorem dX2_copyFrom_123 : decode cX2_copyFrom 123 = .ok (.aload_n 1, 1) := by decide +kernel
theorem dX2_copyFrom_124 : decode cX2_copyFrom 124 = .ok (.getfield 46, 3) := by decide +kernel
theorem dX2_copyFrom_127 : decode cX2_copyFrom 127 = .ok (.iconst 0, 1) := by decide +kernel
theorem dX2_copyFrom_128 : decode cX2_copyFrom 128 = .ok (.aload_n 0, 1) := by decide +kernel
theorem dX2_copyFrom_129 : decode cX2_copyFrom 129 = .ok (.getfield 46, 3) := by decide +kernel
theorem dX2_copyFrom_132 : decode cX2_copyFrom 132 = .ok (.iconst 0, 1) := by decide +kernel
theorem dX2_copyFrom_133 : decode cX2_copyFrom 133 = .ok (.bipush 20, 2) := by decide +kernel
theorem dX2_copyFrom_135 : decode cX2_copyFrom 135 = .ok (.invokestatic 79, 3) := by decide +kernel
theorem dX2_copyFrom_138 : decode cX2_copyFrom 138 = .ok (.aload_n 1, 1) := by decide +kernel
theorem dX2_copyFrom_139 : decode cX2_copyFrom 139 = .ok (.getfield 49, 3) := by decide +kernel
theorem dX2_copyFrom_142 : decode cX2_copyFrom 142 = .ok (.iconst 0, 1) := by decide +kernel
theorem dX2_copyFrom_143 : decode cX2_copyFrom 143 = .ok (.aload_n 0, 1) := by decide +kernel
theorem dX2_copyFrom_144 : decode cX2_copyFrom 144 = .ok (.getfield 49, 3) := by decide +kernel
theorem dX2_copyFrom_147 : decode cX2_copyFrom 147 = .ok (.iconst 0, 1) := by decide +kernel
theorem dX2_copyFrom_148 : decode cX2_copyFrom 148 = .ok (.bipush 20, 2) := by decide +kernel
theorem dX2_copyFrom_150 : decode cX2_copyFrom 150 = .ok (.invokestatic 79, 3) := by decide +kernel
theorem dX2_copyFrom_153 : decode cX2_copyFrom 153 = .ok (.aload_n 1, 1) := by decide +kernel
theorem dX2_copyFrom_154 : decode cX2_copyFrom 154 = .ok (.getfield 52, 3) := by decide +kernel
theorem dX2_copyFrom_157 : decode cX2_copyFrom 157 = .ok (.iconst 0, 1) := by decide +kernel
theorem dX2_copyFrom_158 : decode cX2_copyFrom 158 = .ok (.aload_n 0, 1) := by decide +kernel
theorem dX2_copyFrom_159 : decode cX2_copyFrom 159 = .ok (.getfield 52, 3) := by decide +kernel
theorem dX2_copyFrom_162 : decode cX2_copyFrom 162 = .ok (.iconst 0, 1) := by decide +kernel
theorem dX2_copyFrom_163 : decode cX2_copyFrom 163 = .ok (.bipush 20, 2) := by decide +kernel
theorem dX2_copyFrom_165 : decode cX2_copyFrom 165 = .ok (.invokestatic 79, 3) := by decide +kernel
theorem dX2_copyFrom_168 : decode cX2_copyFrom 168 = .ok (.aload_n 1, 1) := by decide +kernel
theorem dX2_copyFrom_169 : decode cX2_copyFrom 169 = .ok (.getfield 55, 3) := by decide +kernel
theorem dX2_copyFrom_172 : decode cX2_copyFrom 172 = .ok (.iconst 0, 1) := by decide +kernel
theorem dX2_copyFrom_173 : decode cX2_copyFrom 173 = .ok (.aload_n 0, 1) := by decide +kernel
theorem dX2_copyFrom_174 : decode cX2_copyFrom 174 = .ok (.getfield 55, 3) := by decide +kernel
theorem dX2_copyFrom_177 : decode cX2_copyFrom 177 = .ok (.iconst 0, 1) := by decide +kernel
theorem dX2_copyFrom_178 : decode cX2_copyFrom 178 = .ok (.bipush 20, 2) := by decide +kernel
theorem dX2_copyFrom_180 : decode cX2_copyFrom 180 = .ok (.invokestatic 79, 3) := by decide +kernel
theorem dX2_copyFrom_183 : decode cX2_copyFrom 183 = .ok (.aload_n 1, 1) := by decide +kernel
theorem dX2_copyFrom_184 : decode cX2_copyFrom 184 = .ok (.getfield 58, 3) := by decide +kernel
theorem dX2_copyFrom_187 : decode cX2_copyFrom 187 = .ok (.iconst 0, 1) := by decide +kernel
theorem dX2_copyFrom_188 : decode cX2_copyFrom 188 = .ok (.aload_n 0, 1) := by decide +kernel
theorem dX2_copyFrom_189 : decode cX2_copyFrom 189 = .ok (.getfield 58, 3) := by decide +kernel
theorem dX2_copyFrom_192 : decode cX2_copyFrom 192 = .ok (.iconst 0, 1) := by decide +kernel
theorem dX2_copyFrom_193 : decode cX2_copyFrom 193 = .ok (.bipush 20, 2) := by decide +kernel
theorem dX2_copyFrom_195 : decode cX2_copyFrom 195 = .ok (.invokestatic 79, 3) := by decide +kernel
theorem dX2_copyFrom_198 : decode cX2_copyFrom 198 = .ok (.aload_n 1, 1) := by decide +kernel
theorem dX2_copyFrom_199 : decode cX2_copyFrom 199 = .ok (.getfield 61, 3) := by decide +kernel
theorem dX2_copyFrom_202 : decode cX2_copyFrom 202 = .ok (.iconst 0, 1) := by decide +kernel
theorem dX2_copyFrom_203 : decode cX2_copyFrom 203 = .ok (.aload_n 0, 1) := by decide +kernel
theorem dX2_copyFrom_204 : decode cX2_copyFrom 204 = .ok (.getfield 61, 3) := by decide +kernel
theorem dX2_copyFrom_207 : decode cX2_copyFrom 207 = .ok (.iconst 0, 1) := by decide +kernel
theorem dX2_copyFrom_208 : decode cX2_copyFrom 208 = .ok (.bipush 20, 2) := by decide +kernel
theorem dX2_copyFrom_210 : decode cX2_copyFrom 210 = .ok (.invokestatic 79, 3) := by decide +kernel
theorem dX2_copyFrom_213 : decode cX2_copyFrom 213 = .ok (.aload_n 1, 1) := by decide +kernel
theorem dX2_copyFrom_214 : decode cX2_copyFrom 214 = .ok (.getfield 64, 3) := by decide +kernel
theorem dX2_copyFrom_217 : decode cX2_copyFrom 217 = .ok (.iconst 0, 1) := by decide +kernel
theorem dX2_copyFrom_218 : decode cX2_copyFrom 218 = .ok (.aload_n 0, 1) := by decide +kernel
theorem dX2_copyFrom_219 : decode cX2_copyFrom 219 = .ok (.getfield 64, 3) := by decide +kernel
theorem dX2_copyFrom_222 : decode cX2_copyFrom 222 = .ok (.iconst 0, 1) := by decide +kernel
theorem dX2_copyFrom_223 : decode cX2_copyFrom 223 = .ok (.bipush 20, 2) := by decide +kernel
theorem dX2_copyFrom_225 : decode cX2_copyFrom 225 = .ok (.invokestatic 79, 3) := by decide +kernel
theorem dX2_copyFrom_228 : decode cX2_copyFrom 228 = .ok (.aload_n 1, 1) := by decide +kernel
theorem dX2_copyFrom_229 : decode cX2_copyFrom 229 = .ok (.getfield 67, 3) := by decide +kernel
theorem dX2_copyFrom_232 : decode cX2_copyFrom 232 = .ok (.iconst 0, 1) := by decide +kernel
theorem dX2_copyFrom_233 : decode cX2_copyFrom 233 = .ok (.aload_n 0, 1) := by decide +kernel
theorem dX2_copyFrom_234 : decode cX2_copyFrom 234 = .ok (.getfield 67, 3) := by decide +kernel
theorem dX2_copyFrom_237 : decode cX2_copyFrom 237 = .ok (.iconst 0, 1) := by decide +kernel
theorem dX2_copyFrom_238 : decode cX2_copyFrom 238 = .ok (.bipush 20, 2) := by decide +kernel
theorem dX2_copyFrom_240 : decode cX2_copyFrom 240 = .ok (.invokestatic 79, 3) := by decide +kernel
theorem dX2_copyFrom_243 : decode cX2_copyFrom 243 = .ok (.return_, 1) := by decide +kernel
theorem dX3_init_0 : decode cX3_init 0 = .ok (.aload_n 0, 1) := by decide +kernel
theorem dX3_init_1 : decode cX3_init 1 = .ok (.invokespecial 1, 3) := by decide +kernel
theorem dX3_init_4 : decode cX3_init 4 = .ok (.aload_n 0, 1) := by decide +kernel
theorem dX3_init_5 : decode cX3_init 5 = .ok (.bipush 10, 2) := by decide +kernel
theorem dX3_init_7 : decode cX3_init 7 = .ok (.newarray .int, 2) := by decide +kernel
theorem dX3_init_9 : decode cX3_init 9 = .ok (.putfield 9, 3) := by decide +kernel
theorem dX3_init_12 : decode cX3_init 12 = .ok (.aload_n 0, 1) := by decide +kernel
theorem dX3_init_13 : decode cX3_init 13 = .ok (.bipush 40, 2) := by decide +kernel
theorem dX3_init_15 : decode cX3_init 15 = .ok (.newarray .int, 2) := by decide +kernel
theorem dX3_init_17 : decode cX3_init 17 = .ok (.putfield 13, 3) := by decide +kernel
theorem dX3_init_20 : decode cX3_init 20 = .ok (.aload_n 0, 1) := by decide +kernel
theorem dX3_init_21 : decode cX3_init 21 = .ok (.aload_n 1, 1) := by decide +kernel
theorem dX3_init_22 : decode cX3_init 22 = .ok (.putfield 16, 3) := by decide +kernel
theorem dX3_init_25 : decode cX3_init 25 = .ok (.aload_n 0, 1) := by decide +kernel
theorem dX3_init_26 : decode cX3_init 26 = .ok (.aload_n 2, 1) := by decide +kernel
theorem dX3_init_27 : decode cX3_init 27 = .ok (.getfield 20, 3) := by decide +kernel
theorem dX3_init_30 : decode cX3_init 30 = .ok (.putfield 26, 3) := by decide +kernel
theorem dX3_init_33 : decode cX3_init 33 = .ok (.aload_n 0, 1) := by decide +kernel
theorem dX3_init_34 : decode cX3_init 34 = .ok (.aload_n 2, 1) := by decide +kernel
theorem dX3_init_35 : decode cX3_init 35 = .ok (.getfield 29, 3) := by decide +kernel
theorem dX3_init_38 : decode cX3_init 38 = .ok (.putfield 32, 3) := by decide +kernel
theorem dX3_init_41 : decode cX3_init 41 = .ok (.return_, 1) := by decide +kernel
theorem dX3_tells_0 : decode cX3_tells 0 = .ok (.aload_n 0, 1) := by decide +kernel
theorem dX3_tells_1 : decode cX3_tells 1 = .ok (.iload_n 2, 1) := by decide +kernel
theorem dX3_tells_2 : decode cX3_tells 2 = .ok (.iload_n 3, 1) := by decide +kernel
theorem dX3_tells_3 : decode cX3_tells 3 = .ok (.invokevirtual 35, 3) := by decide +kernel
theorem dX3_tells_6 : decode cX3_tells 6 = .ok (.iconst 0, 1) := by decide +kernel
theorem dX3_tells_7 : decode cX3_tells 7 = .ok (.istore 4, 2) := by decide +kernel
theorem dX3_tells_9 : decode cX3_tells 9 = .ok (.iload 4, 2) := by decide +kernel
theorem dX3_tells_11 : decode cX3_tells 11 = .ok (.aload_n 0, 1) := by decide +kernel
theorem dX3_tells_12 : decode cX3_tells 12 = .ok (.getfield 26, 3) := by decide +kernel
theorem dX3_tells_15 : decode cX3_tells 15 = .ok (.invokevirtual 39, 3) := by decide +kernel
theorem dX3_tells_18 : decode cX3_tells 18 = .ok (.if_icmp .ge 114, 3) := by decide +kernel
theorem dX3_tells_21 : decode cX3_tells 21 = .ok (.aload_n 0, 1) := by decide +kernel
theorem dX3_tells_22 : decode cX3_tells 22 = .ok (.getfield 26, 3) := by decide +kernel
theorem dX3_tells_25 : decode cX3_tells 25 = .ok (.iload 4, 2) := by decide +kernel
theorem dX3_tells_27 : decode cX3_tells 27 = .ok (.iconst 0, 1) := by decide +kernel
theorem dX3_tells_28 : decode cX3_tells 28 = .ok (.invokevirtual 45, 3) := by decide +kernel
theorem dX3_tells_31 : decode cX3_tells 31 = .ok (.iload_n 1, 1) := by decide +kernel
theorem dX3_tells_32 : decode cX3_tells 32 = .ok (.if_icmp .eq 6, 3) := by decide +kernel
theorem dX3_tells_35 : decode cX3_tells 35 = .ok (.goto 91, 3) := by decide +kernel
theorem dX3_tells_38 : decode cX3_tells 38 = .ok (.aload_n 0, 1) := by decide +kernel
theorem dX3_tells_39 : decode cX3_tells 39 = .ok (.getfield 26, 3) := by decide +kernel
theorem dX3_tells_42 : decode cX3_tells 42 = .ok (.iload 4, 2) := by decide +kernel
theorem dX3_tells_44 : decode cX3_tells 44 = .ok (.iconst 2, 1) := by decide +kernel
theorem dX3_tells_45 : decode cX3_tells 45 = .ok (.invokevirtual 45, 3) := by decide +kernel
theorem dX3_tells_48 : decode cX3_tells 48 = .ok (.istore 5, 2) := by decide +kernel
theorem dX3_tells_50 : decode cX3_tells 50 = .ok (.aload_n 0, 1) := by decide +kernel
theorem dX3_tells_51 : decode cX3_tells 51 = .ok (.getfield 26, 3) := by decide +kernel
theorem dX3_tells_54 : decode cX3_tells 54 = .ok (.iload 4, 2) := by decide +kernel
theorem dX3_tells_56 : decode cX3_tells 56 = .ok (.iconst 3, 1) := by decide +kernel
theorem dX3_tells_57 : decode cX3_tells 57 = .ok (.invokevirtual 45, 3) := by decide +kernel
theorem dX3_tells_60 : decode cX3_tells 60 = .ok (.istore 6, 2) := by decide +kernel
theorem dX3_tells_62 : decode cX3_tells 62 = .ok (.iload 5, 2) := by decide +kernel
theorem dX3_tells_64 : decode cX3_tells 64 = .ok (.iload 6, 2) := by decide +kernel
theorem dX3_tells_66 : decode cX3_tells 66 = .ok (.if_icmp .ge 17, 3) := by decide +kernel
theorem dX3_tells_69 : decode cX3_tells 69 = .ok (.aload_n 0, 1) := by decide +kernel
theorem dX3_tells_70 : decode cX3_tells 70 = .ok (.iload 5, 2) := by decide +kernel
theorem dX3_tells_72 : decode cX3_tells 72 = .ok (.iload 6, 2) := by decide +kernel
theorem dX3_tells_74 : decode cX3_tells 74 = .ok (.invokevirtual 49, 3) := by decide +kernel
theorem dX3_tells_77 : decode cX3_tells 77 = .ok (.ifCond .ne 6, 3) := by decide +kernel
theorem dX3_tells_80 : decode cX3_tells 80 = .ok (.goto 46, 3) := by decide +kernel
theorem dX3_tells_83 : decode cX3_tells 83 = .ok (.iload_n 1, 1) := by decide +kernel
theorem dX3_tells_84 : decode cX3_tells 84 = .ok (.sipush 262, 3) := by decide +kernel
theorem dX3_tells_87 : decode cX3_tells 87 = .ok (.if_icmp .ne 8, 3) := by decide +kernel
theorem dX3_tells_90 : decode cX3_tells 90 = .ok (.bipush 9, 2) := by decide +kernel
theorem dX3_tells_92 : decode cX3_tells 92 = .ok (.goto 6, 3) := by decide +kernel
theorem dX3_tells_95 : decode cX3_tells 95 = .ok (.sipush 1000, 3) := by decide +kernel
theorem dX3_tells_98 : decode cX3_tells 98 = .ok (.istore 7, 2) := by decide +kernel
theorem dX3_tells_100 : decode cX3_tells 100 = .ok (.iconst 0, 1) := by decide +kernel
theorem dX3_tells_101 : decode cX3_tells 101 = .ok (.iload 7, 2) := by decide +kernel
theorem dX3_tells_103 : decode cX3_tells 103 = .ok (.aload_n 0, 1) := by decide +kernel
theorem dX3_tells_104 : decode cX3_tells 104 = .ok (.aload_n 0, 1) := by decide +kernel
theorem dX3_tells_105 : decode cX3_tells 105 = .ok (.getfield 26, 3) := by decide +kernel
theorem dX3_tells_108 : decode cX3_tells 108 = .ok (.iload 4, 2) := by decide +kernel
theorem dX3_tells_110 : decode cX3_tells 110 = .ok (.iconst 1, 1) := by decide +kernel
theorem dX3_tells_111 : decode cX3_tells 111 = .ok (.invokevirtual 45, 3) := by decide +kernel
theorem dX3_tells_114 : decode cX3_tells 114 = .ok (.iload 5, 2) := by decide +kernel
theorem dX3_tells_116 : decode cX3_tells 116 = .ok (.invokevirtual 49, 3) := by decide +kernel
theorem dX3_tells_119 : decode cX3_tells 119 = .ok (.invokestatic 54, 3) := by decide +kernel
theorem dX3_tells_122 : decode cX3_tells 122 = .ok (.invokestatic 59, 3) := by decide +kernel
theorem dX3_tells_125 : decode cX3_tells 125 = .ok (.ireturn, 1) := by decide +kernel
theorem dX3_tells_126 : decode cX3_tells 126 = .ok (.iinc 4 1, 3) := by decide +kernel
theorem dX3_tells_129 : decode cX3_tells 129 = .ok (.goto (-120), 3) := by decide +kernel
theorem dX3_tells_132 : decode cX3_tells 132 = .ok (.iload_n 1, 1) := by decide +kernel
theorem dX3_tells_133 : decode cX3_tells 133 = .ok (.sipush 260, 3) := by decide +kernel
theorem dX3_tells_136 : decode cX3_tells 136 = .ok (.if_icmp .ne 13, 3) := by decide +kernel
theorem dX3_tells_139 : decode cX3_tells 139 = .ok (.bipush 60, 2) := by decide +kernel
theorem dX3_tells_141 : decode cX3_tells 141 = .ok (.aload_n 0, 1) := by decide +kernel
theorem dX3_tells_142 : decode cX3_tells 142 = .ok (.getfield 9, 3) := by decide +kernel
theorem dX3_tells_145 : decode cX3_tells 145 = .ok (.iconst 0, 1) := by decide +kernel
theorem dX3_tells_146 : decode cX3_tells 146 = .ok (.iaload, 1) := by decide +kernel
theorem dX3_tells_147 : decode cX3_tells 147 = .ok (.imul, 1) := by decide +kernel
theorem dX3_tells_148 : decode cX3_tells 148 = .ok (.ireturn, 1) := by decide +kernel
theorem dX3_tells_149 : decode cX3_tells 149 = .ok (.iload_n 1, 1) := by decide +kernel
theorem dX3_tells_150 : decode cX3_tells 150 = .ok (.sipush 261, 3) := by decide +kernel
theorem dX3_tells_153 : decode cX3_tells 153 = .ok (.if_icmp .ne 15, 3) := by decide +kernel
theorem dX3_tells_156 : decode cX3_tells 156 = .ok (.bipush 100, 2) := by decide +kernel
theorem dX3_tells_158 : decode cX3_tells 158 = .ok (.aload_n 0, 1) := by decide +kernel
theorem dX3_tells_159 : decode cX3_tells 159 = .ok (.getfield 9, 3) := by decide +kernel
theorem dX3_tells_162 : decode cX3_tells 162 = .ok (.iconst 1, 1) := by decide +kernel
theorem dX3_tells_163 : decode cX3_tells 163 = .ok (.iaload, 1) := by decide +kernel
theorem dX3_tells_164 : decode cX3_tells 164 = .ok (.imul, 1) := by decide +kernel
theorem dX3_tells_165 : decode cX3_tells 165 = .ok (.goto 4, 3) := by decide +kernel
theorem dX3_tells_168 : decode cX3_tells 168 = .ok (.iconst 1, 1) := by decide +kernel
theorem dX3_tells_169 : decode cX3_tells 169 = .ok (.ireturn, 1) := by decide +kernel
theorem dX3_lookAt_0 : decode cX3_lookAt 0 = .ok (.aload_n 0, 1) := by decide +kernel
theorem dX3_lookAt_1 : decode cX3_lookAt 1 = .ok (.getfield 9, 3) := by decide +kernel
theorem dX3_lookAt_4 : decode cX3_lookAt 4 = .ok (.iconst 0, 1) := by decide +kernel
theorem dX3_lookAt_5 : decode cX3_lookAt 5 = .ok (.invokestatic 62, 3) := by decide +kernel
theorem dX3_lookAt_8 : decode cX3_lookAt 8 = .ok (.aload_n 0, 1) := by decide +kernel
theorem dX3_lookAt_9 : decode cX3_lookAt 9 = .ok (.getfield 16, 3) := by decide +kernel
theorem dX3_lookAt_12 : decode cX3_lookAt 12 = .ok (.iload_n 1, 1) := by decide +kernel
theorem dX3_lookAt_13 : decode cX3_lookAt 13 = .ok (.invokevirtual 68, 3) := by decide +kernel
theorem dX3_lookAt_16 : decode cX3_lookAt 16 = .ok (.ifCond .eq 80, 3) := by decide +kernel
theorem dX3_lookAt_19 : decode cX3_lookAt 19 = .ok (.aload_n 0, 1) := by decide +kernel
theorem dX3_lookAt_20 : decode cX3_lookAt 20 = .ok (.getfield 9, 3) := by decide +kernel
theorem dX3_lookAt_23 : decode cX3_lookAt 23 = .ok (.iconst 0, 1) := by decide +kernel
theorem dX3_lookAt_24 : decode cX3_lookAt 24 = .ok (.aload_n 0, 1) := by decide +kernel
theorem dX3_lookAt_25 : decode cX3_lookAt 25 = .ok (.getfield 16, 3) := by decide +kernel
theorem dX3_lookAt_28 : decode cX3_lookAt 28 = .ok (.getfield 74, 3) := by decide +kernel
theorem dX3_lookAt_31 : decode cX3_lookAt 31 = .ok (.iload_n 1, 1) := by decide +kernel
theorem dX3_lookAt_32 : decode cX3_lookAt 32 = .ok (.iaload, 1) := by decide +kernel
theorem dX3_lookAt_33 : decode cX3_lookAt 33 = .ok (.iastore, 1) := by decide +kernel
theorem dX3_lookAt_34 : decode cX3_lookAt 34 = .ok (.aload_n 0, 1) := by decide +kernel
theorem dX3_lookAt_35 : decode cX3_lookAt 35 = .ok (.getfield 9, 3) := by decide +kernel
theorem dX3_lookAt_38 : decode cX3_lookAt 38 = .ok (.iconst 1, 1) := by decide +kernel
theorem dX3_lookAt_39 : decode cX3_lookAt 39 = .ok (.aload_n 0, 1) := by decide +kernel
theorem dX3_lookAt_40 : decode cX3_lookAt 40 = .ok (.getfield 16, 3) := by decide +kernel
theorem dX3_lookAt_43 : decode cX3_lookAt 43 = .ok (.getfield 77, 3) := by decide +kernel
theorem dX3_lookAt_46 : decode cX3_lookAt 46 = .ok (.iload_n 1, 1) := by decide +kernel
theorem dX3_lookAt_47 : decode cX3_lookAt 47 = .ok (.iaload, 1) := by decide +kernel
theorem dX3_lookAt_48 : decode cX3_lookAt 48 = .ok (.iastore, 1) := by decide +kernel
theorem dX3_lookAt_49 : decode cX3_lookAt 49 = .ok (.aload_n 0, 1) := by decide +kernel
theorem dX3_lookAt_50 : decode cX3_lookAt 50 = .ok (.getfield 9, 3) := by decide +kernel
theorem dX3_lookAt_53 : decode cX3_lookAt 53 = .ok (.iconst 3, 1) := by decide +kernel
theorem dX3_lookAt_54 : decode cX3_lookAt 54 = .ok (.aload_n 0, 1) := by decide +kernel
theorem dX3_lookAt_55 : decode cX3_lookAt 55 = .ok (.getfield 16, 3) := by decide +kernel
theorem dX3_lookAt_58 : decode cX3_lookAt 58 = .ok (.getfield 80, 3) := by decide +kernel
theorem dX3_lookAt_61 : decode cX3_lookAt 61 = .ok (.iload_n 1, 1) := by decide +kernel
theorem dX3_lookAt_62 : decode cX3_lookAt 62 = .ok (.iaload, 1) := by decide +kernel
theorem dX3_lookAt_63 : decode cX3_lookAt 63 = .ok (.iastore, 1) := by decide +kernel
theorem dX3_lookAt_64 : decode cX3_lookAt 64 = .ok (.aload_n 0, 1) := by decide +kernel
theorem dX3_lookAt_65 : decode cX3_lookAt 65 = .ok (.getfield 9, 3) := by decide +kernel
theorem dX3_lookAt_68 : decode cX3_lookAt 68 = .ok (.bipush 7, 2) := by decide +kernel
theorem dX3_lookAt_70 : decode cX3_lookAt 70 = .ok (.aload_n 0, 1) := by decide +kernel
theorem dX3_lookAt_71 : decode cX3_lookAt 71 = .ok (.getfield 16, 3) := by decide +kernel
theorem dX3_lookAt_74 : decode cX3_lookAt 74 = .ok (.getfield 83, 3) := by decide +kernel
theorem dX3_lookAt_77 : decode cX3_lookAt 77 = .ok (.iload_n 1, 1) := by decide +kernel
theorem dX3_lookAt_78 : decode cX3_lookAt 78 = .ok (.iaload, 1) := by decide +kernel
theorem dX3_lookAt_79 : decode cX3_lookAt 79 = .ok (.iastore, 1) := by decide +kernel
theorem dX3_lookAt_80 : decode cX3_lookAt 80 = .ok (.aload_n 0, 1) := by decide +kernel
theorem dX3_lookAt_81 : decode cX3_lookAt 81 = .ok (.getfield 9, 3) := by decide +kernel
theorem dX3_lookAt_84 : decode cX3_lookAt 84 = .ok (.bipush 8, 2) := by decide +kernel
theorem dX3_lookAt_86 : decode cX3_lookAt 86 = .ok (.aload_n 0, 1) := by decide +kernel
theorem dX3_lookAt_87 : decode cX3_lookAt 87 = .ok (.getfield 16, 3) := by decide +kernel
theorem dX3_lookAt_90 : decode cX3_lookAt 90 = .ok (.getfield 86, 3) := by decide +kernel
theorem dX3_lookAt_93 : decode cX3_lookAt 93 = .ok (.iload_n 1, 1) := by decide +kernel
theorem dX3_lookAt_94 : decode cX3_lookAt 94 = .ok (.iaload, 1) := by decide +kernel
theorem dX3_lookAt_95 : decode cX3_lookAt 95 = .ok (.iastore, 1) := by decide +kernel
theorem dX3_lookAt_96 : decode cX3_lookAt 96 = .ok (.aload_n 0, 1) := by decide +kernel
theorem dX3_lookAt_97 : decode cX3_lookAt 97 = .ok (.getfield 16, 3) := by decide +kernel
theorem dX3_lookAt_100 : decode cX3_lookAt 100 = .ok (.iload_n 2, 1) := by decide +kernel
theorem dX3_lookAt_101 : decode cX3_lookAt 101 = .ok (.invokevirtual 89, 3) := by decide +kernel
theorem dX3_lookAt_104 : decode cX3_lookAt 104 = .ok (.ifCond .eq 48, 3) := by decide +kernel
theorem dX3_lookAt_107 : decode cX3_lookAt 107 = .ok (.aload_n 0, 1) := by decide +kernel
theorem dX3_lookAt_108 : decode cX3_lookAt 108 = .ok (.getfield 9, 3) := by decide +kernel
theorem dX3_lookAt_111 : decode cX3_lookAt 111 = .ok (.iconst 2, 1) := by decide +kernel
theorem dX3_lookAt_112 : decode cX3_lookAt 112 = .ok (.aload_n 0, 1) := by decide +kernel
theorem dX3_lookAt_113 : decode cX3_lookAt 113 = .ok (.getfield 16, 3) := by decide +kernel
theorem dX3_lookAt_116 : decode cX3_lookAt 116 = .ok (.getfield 92, 3) := by decide +kernel
theorem dX3_lookAt_119 : decode cX3_lookAt 119 = .ok (.iload_n 2, 1) := by decide +kernel
theorem dX3_lookAt_120 : decode cX3_lookAt 120 = .ok (.iaload, 1) := by decide +kernel
theorem dX3_lookAt_121 : decode cX3_lookAt 121 = .ok (.iastore, 1) := by decide +kernel
theorem dX3_lookAt_122 : decode cX3_lookAt 122 = .ok (.aload_n 0, 1) := by decide +kernel
theorem dX3_lookAt_123 : decode cX3_lookAt 123 = .ok (.getfield 9, 3) := by decide +kernel
theorem dX3_lookAt_126 : decode cX3_lookAt 126 = .ok (.iconst 4, 1) := by decide +kernel
theorem dX3_lookAt_127 : decode cX3_lookAt 127 = .ok (.aload_n 0, 1) := by decide +kernel
theorem dX3_lookAt_128 : decode cX3_lookAt 128 = .ok (.getfield 16, 3) := by decide +kernel
theorem dX3_lookAt_131 : decode cX3_lookAt 131 = .ok (.getfield 95, 3) := by decide +kernel
theorem dX3_lookAt_134 : decode cX3_lookAt 134 = .ok (.iload_n 2, 1) := by decide +kernel
theorem dX3_lookAt_135 : decode cX3_lookAt 135 = .ok (.iaload, 1) := by decide +kernel
theorem dX3_lookAt_136 : decode cX3_lookAt 136 = .ok (.iastore, 1) := by decide +kernel
theorem dX3_lookAt_137 : decode cX3_lookAt 137 = .ok (.aload_n 0, 1) := by decide +kernel
theorem dX3_lookAt_138 : decode cX3_lookAt 138 = .ok (.getfield 9, 3) := by decide +kernel
theorem dX3_lookAt_141 : decode cX3_lookAt 141 = .ok (.iconst 5, 1) := by decide +kernel
theorem dX3_lookAt_142 : decode cX3_lookAt 142 = .ok (.aload_n 0, 1) := by decide +kernel
theorem dX3_lookAt_143 : decode cX3_lookAt 143 = .ok (.getfield 16, 3) := by decide +kernel
theorem dX3_lookAt_146 : decode cX3_lookAt 146 = .ok (.getfield 98, 3) := by decide +kernel
theorem dX3_lookAt_149 : decode cX3_lookAt 149 = .ok (.iload_n 2, 1) := by decide +kernel
theorem dX3_lookAt_150 : decode cX3_lookAt 150 = .ok (.iaload, 1) := by decide +kernel
theorem dX3_lookAt_151 : decode cX3_lookAt 151 = .ok (.iastore, 1) := by decide +kernel
theorem dX3_lookAt_152 : decode cX3_lookAt 152 = .ok (.aload_n 0, 1) := by decide +kernel
theorem dX3_lookAt_153 : decode cX3_lookAt 153 = .ok (.getfield 9, 3) := by decide +kernel
theorem dX3_lookAt_156 : decode cX3_lookAt 156 = .ok (.bipush 6, 2) := by decide +kernel
theorem dX3_lookAt_158 : decode cX3_lookAt 158 = .ok (.aload_n 0, 1) := by decide +kernel
theorem dX3_lookAt_159 : decode cX3_lookAt 159 = .ok (.getfield 16, 3) := by decide +kernel
theorem dX3_lookAt_162 : decode cX3_lookAt 162 = .ok (.getfield 101, 3) := by decide +kernel
theorem dX3_lookAt_165 : decode cX3_lookAt 165 = .ok (.iastore, 1) := by decide +kernel
theorem dX3_lookAt_166 : decode cX3_lookAt 166 = .ok (.aload_n 0, 1) := by decide +kernel
theorem dX3_lookAt_167 : decode cX3_lookAt 167 = .ok (.getfield 9, 3) := by decide +kernel
theorem dX3_lookAt_170 : decode cX3_lookAt 170 = .ok (.bipush 9, 2) := by decide +kernel
theorem dX3_lookAt_172 : decode cX3_lookAt 172 = .ok (.aload_n 0, 1) := by decide +kernel
theorem dX3_lookAt_173 : decode cX3_lookAt 173 = .ok (.getfield 16, 3) := by decide +kernel
theorem dX3_lookAt_176 : decode cX3_lookAt 176 = .ok (.getfield 105, 3) := by decide +kernel
theorem dX3_lookAt_179 : decode cX3_lookAt 179 = .ok (.iastore, 1) := by decide +kernel
theorem dX3_lookAt_180 : decode cX3_lookAt 180 = .ok (.return_, 1) := by decide +kernel
theorem dX3_value_0 : decode cX3_value 0 = .ok (.iconst 0, 1) := by decide +kernel
theorem dX3_value_1 : decode cX3_value 1 = .ok (.istore_n 3, 1) := by decide +kernel
theorem dX3_value_2 : decode cX3_value 2 = .ok (.iload_n 1, 1) := by decide +kernel
theorem dX3_value_3 : decode cX3_value 3 = .ok (.istore 4, 2) := by decide +kernel
theorem dX3_value_5 : decode cX3_value 5 = .ok (.iload 4, 2) := by decide +kernel
theorem dX3_value_7 : decode cX3_value 7 = .ok (.iload_n 2, 1) := by decide +kernel
theorem dX3_value_8 : decode cX3_value 8 = .ok (.if_icmp .ge 166, 3) := by decide +kernel
theorem dX3_value_11 : decode cX3_value 11 = .ok (.aload_n 0, 1) := by decide +kernel
theorem dX3_value_12 : decode cX3_value 12 = .ok (.getfield 32, 3) := by decide +kernel
theorem dX3_value_15 : decode cX3_value 15 = .ok (.iload 4, 2) := by decide +kernel
theorem dX3_value_17 : decode cX3_value 17 = .ok (.iconst 0, 1) := by decide +kernel
theorem dX3_value_18 : decode cX3_value 18 = .ok (.invokevirtual 45, 3) := by decide +kernel
theorem dX3_value_21 : decode cX3_value 21 = .ok (.istore 5, 2) := by decide +kernel
theorem dX3_value_23 : decode cX3_value 23 = .ok (.iload 5, 2) := by decide +kernel
theorem dX3_value_25 : decode cX3_value 25 = .ok (.ineg, 1) := by decide +kernel
theorem dX3_value_26 : decode cX3_value 26 = .ok (.sipush 270, 3) := by decide +kernel
theorem dX3_value_29 : decode cX3_value 29 = .ok (.isub, 1) := by decide +kernel
theorem dX3_value_30 : decode cX3_value 30 = .ok (.istore 6, 2) := by decide +kernel
theorem dX3_value_32 : decode cX3_value 32 = .ok (.iload 5, 2) := by decide +kernel
theorem dX3_value_34 : decode cX3_value 34 = .ok (.ifCond .ge 14, 3) := by decide +kernel
theorem dX3_value_37 : decode cX3_value 37 = .ok (.iload 6, 2) := by decide +kernel
theorem dX3_value_39 : decode cX3_value 39 = .ok (.iconst 0, 1) := by decide +kernel
theorem dX3_value_40 : decode cX3_value 40 = .ok (.bipush 9, 2) := by decide +kernel
theorem dX3_value_42 : decode cX3_value 42 = .ok (.invokestatic 108, 3) := by decide +kernel
theorem dX3_value_45 : decode cX3_value 45 = .ok (.ifCond .eq 43, 3) := by decide +kernel
theorem dX3_value_48 : decode cX3_value 48 = .ok (.iload_n 3, 1) := by decide +kernel
theorem dX3_value_49 : decode cX3_value 49 = .ok (.aload_n 0, 1) := by decide +kernel
theorem dX3_value_50 : decode cX3_value 50 = .ok (.getfield 13, 3) := by decide +kernel
theorem dX3_value_53 : decode cX3_value 53 = .ok (.arraylength, 1) := by decide +kernel
theorem dX3_value_54 : decode cX3_value 54 = .ok (.if_icmp .lt 5, 3) := by decide +kernel
theorem dX3_value_57 : decode cX3_value 57 = .ok (.iconst 0, 1) := by decide +kernel
theorem dX3_value_58 : decode cX3_value 58 = .ok (.ireturn, 1) := by decide +kernel
theorem dX3_value_59 : decode cX3_value 59 = .ok (.aload_n 0, 1) := by decide +kernel
theorem dX3_value_60 : decode cX3_value 60 = .ok (.getfield 13, 3) := by decide +kernel
theorem dX3_value_63 : decode cX3_value 63 = .ok (.iload_n 3, 1) := by decide +kernel
theorem dX3_value_64 : decode cX3_value 64 = .ok (.iload 5, 2) := by decide +kernel
theorem dX3_value_66 : decode cX3_value 66 = .ok (.ifCond .lt 8, 3) := by decide +kernel
theorem dX3_value_69 : decode cX3_value 69 = .ok (.iload 5, 2) := by decide +kernel
theorem dX3_value_71 : decode cX3_value 71 = .ok (.goto 10, 3) := by decide +kernel
theorem dX3_value_74 : decode cX3_value 74 = .ok (.aload_n 0, 1) := by decide +kernel
theorem dX3_value_75 : decode cX3_value 75 = .ok (.getfield 9, 3) := by decide +kernel
theorem dX3_value_78 : decode cX3_value 78 = .ok (.iload 6, 2) := by decide +kernel
theorem dX3_value_80 : decode cX3_value 80 = .ok (.iaload, 1) := by decide +kernel
theorem dX3_value_81 : decode cX3_value 81 = .ok (.iastore, 1) := by decide +kernel
theorem dX3_value_82 : decode cX3_value 82 = .ok (.iinc 3 1, 3) := by decide +kernel
theorem dX3_value_85 : decode cX3_value 85 = .ok (.goto 83, 3) := by decide +kernel
theorem dX3_value_88 : decode cX3_value 88 = .ok (.iload 5, 2) := by decide +kernel
theorem dX3_value_90 : decode cX3_value 90 = .ok (.sipush (-266), 3) := by decide +kernel
theorem dX3_value_93 : decode cX3_value 93 = .ok (.if_icmp .ne 37, 3) := by decide +kernel
theorem dX3_value_96 : decode cX3_value 96 = .ok (.iload_n 3, 1) := by decide +kernel
theorem dX3_value_97 : decode cX3_value 97 = .ok (.iconst 1, 1) := by decide +kernel
theorem dX3_value_98 : decode cX3_value 98 = .ok (.if_icmp .ge 5, 3) := by decide +kernel
theorem dX3_value_101 : decode cX3_value 101 = .ok (.iconst 0, 1) := by decide +kernel
theorem dX3_value_102 : decode cX3_value 102 = .ok (.ireturn, 1) := by decide +kernel
theorem dX3_value_103 : decode cX3_value 103 = .ok (.aload_n 0, 1) := by decide +kernel
theorem dX3_value_104 : decode cX3_value 104 = .ok (.getfield 13, 3) := by decide +kernel
theorem dX3_value_107 : decode cX3_value 107 = .ok (.iload_n 3, 1) := by decide +kernel
theorem dX3_value_108 : decode cX3_value 108 = .ok (.iconst 1, 1) := by decide +kernel
theorem dX3_value_109 : decode cX3_value 109 = .ok (.isub, 1) := by decide +kernel
theorem dX3_value_110 : decode cX3_value 110 = .ok (.aload_n 0, 1) := by decide +kernel
theorem dX3_value_111 : decode cX3_value 111 = .ok (.getfield 13, 3) := by decide +kernel
theorem dX3_value_114 : decode cX3_value 114 = .ok (.iload_n 3, 1) := by decide +kernel
theorem dX3_value_115 : decode cX3_value 115 = .ok (.iconst 1, 1) := by decide +kernel
theorem dX3_value_116 : decode cX3_value 116 = .ok (.isub, 1) := by decide +kernel
theorem dX3_value_117 : decode cX3_value 117 = .ok (.iaload, 1) := by decide +kernel
theorem dX3_value_118 : decode cX3_value 118 = .ok (.ifCond .ne 7, 3) := by decide +kernel
theorem dX3_value_121 : decode cX3_value 121 = .ok (.iconst 1, 1) := by decide +kernel
theorem dX3_value_122 : decode cX3_value 122 = .ok (.goto 4, 3) := by decide +kernel
theorem dX3_value_125 : decode cX3_value 125 = .ok (.iconst 0, 1) := by decide +kernel
theorem dX3_value_126 : decode cX3_value 126 = .ok (.iastore, 1) := by decide +kernel
theorem dX3_value_127 : decode cX3_value 127 = .ok (.goto 41, 3) := by decide +kernel
theorem dX3_value_130 : decode cX3_value 130 = .ok (.iload_n 3, 1) := by decide +kernel
theorem dX3_value_131 : decode cX3_value 131 = .ok (.iconst 2, 1) := by decide +kernel
theorem dX3_value_132 : decode cX3_value 132 = .ok (.if_icmp .ge 5, 3) := by decide +kernel
theorem dX3_value_135 : decode cX3_value 135 = .ok (.iconst 0, 1) := by decide +kernel
theorem dX3_value_136 : decode cX3_value 136 = .ok (.ireturn, 1) := by decide +kernel
theorem dX3_value_137 : decode cX3_value 137 = .ok (.iinc 3 (-1), 3) := by decide +kernel
theorem dX3_value_140 : decode cX3_value 140 = .ok (.aload_n 0, 1) := by decide +kernel
theorem dX3_value_141 : decode cX3_value 141 = .ok (.getfield 13, 3) := by decide +kernel
theorem dX3_value_144 : decode cX3_value 144 = .ok (.iload_n 3, 1) := by decide +kernel
theorem dX3_value_145 : decode cX3_value 145 = .ok (.iconst 1, 1) := by decide +kernel
theorem dX3_value_146 : decode cX3_value 146 = .ok (.isub, 1) := by decide +kernel
theorem dX3_value_147 : decode cX3_value 147 = .ok (.iload 5, 2) := by decide +kernel
theorem dX3_value_149 : decode cX3_value 149 = .ok (.ineg, 1) := by decide +kernel
theorem dX3_value_150 : decode cX3_value 150 = .ok (.aload_n 0, 1) := by decide +kernel
theorem dX3_value_151 : decode cX3_value 151 = .ok (.getfield 13, 3) := by decide +kernel
theorem dX3_value_154 : decode cX3_value 154 = .ok (.iload_n 3, 1) := by decide +kernel
theorem dX3_value_155 : decode cX3_value 155 = .ok (.iconst 1, 1) := by decide +kernel
theorem dX3_value_156 : decode cX3_value 156 = .ok (.isub, 1) := by decide +kernel
theorem dX3_value_157 : decode cX3_value 157 = .ok (.iaload, 1) := by decide +kernel
theorem dX3_value_158 : decode cX3_value 158 = .ok (.aload_n 0, 1) := by decide +kernel
theorem dX3_value_159 : decode cX3_value 159 = .ok (.getfield 13, 3) := by decide +kernel
theorem dX3_value_162 : decode cX3_value 162 = .ok (.iload_n 3, 1) := by decide +kernel
theorem dX3_value_163 : decode cX3_value 163 = .ok (.iaload, 1) := by decide +kernel
theorem dX3_value_164 : decode cX3_value 164 = .ok (.invokestatic 114, 3) := by decide +kernel
theorem dX3_value_167 : decode cX3_value 167 = .ok (.iastore, 1) := by decide +kernel
theorem dX3_value_168 : decode cX3_value 168 = .ok (.iinc 4 1, 3) := by decide +kernel
theorem dX3_value_171 : decode cX3_value 171 = .ok (.goto (-166), 3) := by decide +kernel
theorem dX3_value_174 : decode cX3_value 174 = .ok (.iload_n 3, 1) := by decide +kernel
theorem dX3_value_175 : decode cX3_value 175 = .ok (.ifCond .le 14, 3) := by decide +kernel
theorem dX3_value_178 : decode cX3_value 178 = .ok (.aload_n 0, 1) := by decide +kernel
theorem dX3_value_179 : decode cX3_value 179 = .ok (.getfield 13, 3) := by decide +kernel
theorem dX3_value_182 : decode cX3_value 182 = .ok (.iload_n 3, 1) := by decide +kernel
theorem dX3_value_183 : decode cX3_value 183 = .ok (.iconst 1, 1) := by decide +kernel
theorem dX3_value_184 : decode cX3_value 184 = .ok (.isub, 1) := by decide +kernel
theorem dX3_value_185 : decode cX3_value 185 = .ok (.iaload, 1) := by decide +kernel
theorem dX3_value_186 : decode cX3_value 186 = .ok (.goto 4, 3) := by decide +kernel
theorem dX3_value_189 : decode cX3_value 189 = .ok (.iconst 0, 1) := by decide +kernel
theorem dX3_value_190 : decode cX3_value 190 = .ok (.ireturn, 1) := by decide +kernel
theorem dX3_joined_0 : decode cX3_joined 0 = .ok (.iconst 0, 1) := by decide +kernel
theorem dX3_joined_1 : decode cX3_joined 1 = .ok (.istore_n 3, 1) := by decide +kernel
theorem dX3_joined_2 : decode cX3_joined 2 = .ok (.iload_n 0, 1) := by decide +kernel
theorem dX3_joined_3 : decode cX3_joined 3 = .ok (.lookupswitch 181 #[(42, 89), (43, 81), (45, 85), (47, 93), (60, 105), (61, 119), (62, 133), (264, 164), (265, 147)], 81) := by decide +kernel
theorem dX3_joined_84 : decode cX3_joined 84 = .ok (.iload_n 1, 1) := by decide +kernel
theorem dX3_joined_85 : decode cX3_joined 85 = .ok (.iload_n 2, 1) := by decide +kernel
theorem dX3_joined_86 : decode cX3_joined 86 = .ok (.iadd, 1) := by decide +kernel
theorem dX3_joined_87 : decode cX3_joined 87 = .ok (.ireturn, 1) := by decide +kernel
theorem dX3_joined_88 : decode cX3_joined 88 = .ok (.iload_n 1, 1) := by decide +kernel
theorem dX3_joined_89 : decode cX3_joined 89 = .ok (.iload_n 2, 1) := by decide +kernel
theorem dX3_joined_90 : decode cX3_joined 90 = .ok (.isub, 1) := by decide +kernel
theorem dX3_joined_91 : decode cX3_joined 91 = .ok (.ireturn, 1) := by decide +kernel
theorem dX3_joined_92 : decode cX3_joined 92 = .ok (.iload_n 1, 1) := by decide +kernel
theorem dX3_joined_93 : decode cX3_joined 93 = .ok (.iload_n 2, 1) := by decide +kernel
theorem dX3_joined_94 : decode cX3_joined 94 = .ok (.imul, 1) := by decide +kernel
theorem dX3_joined_95 : decode cX3_joined 95 = .ok (.ireturn, 1) := by decide +kernel
theorem dX3_joined_96 : decode cX3_joined 96 = .ok (.iload_n 2, 1) := by decide +kernel
theorem dX3_joined_97 : decode cX3_joined 97 = .ok (.ifCond .ne 7, 3) := by decide +kernel
theorem dX3_joined_100 : decode cX3_joined 100 = .ok (.iconst 0, 1) := by decide +kernel
theorem dX3_joined_101 : decode cX3_joined 101 = .ok (.goto 6, 3) := by decide +kernel
theorem dX3_joined_104 : decode cX3_joined 104 = .ok (.iload_n 1, 1) := by decide +kernel
theorem dX3_joined_105 : decode cX3_joined 105 = .ok (.iload_n 2, 1) := by decide +kernel
theorem dX3_joined_106 : decode cX3_joined 106 = .ok (.idiv, 1) := by decide +kernel
theorem dX3_joined_107 : decode cX3_joined 107 = .ok (.ireturn, 1) := by decide +kernel
theorem dX3_joined_108 : decode cX3_joined 108 = .ok (.iload_n 1, 1) := by decide +kernel
theorem dX3_joined_109 : decode cX3_joined 109 = .ok (.iload_n 2, 1) := by decide +kernel
theorem dX3_joined_110 : decode cX3_joined 110 = .ok (.if_icmp .ge 7, 3) := by decide +kernel
theorem dX3_joined_113 : decode cX3_joined 113 = .ok (.iconst 1, 1) := by decide +kernel
theorem dX3_joined_114 : decode cX3_joined 114 = .ok (.goto 4, 3) := by decide +kernel
theorem dX3_joined_117 : decode cX3_joined 117 = .ok (.iconst 0, 1) := by decide +kernel
theorem dX3_joined_118 : decode cX3_joined 118 = .ok (.istore_n 3, 1) := by decide +kernel
theorem dX3_joined_119 : decode cX3_joined 119 = .ok (.goto 65, 3) := by decide +kernel
theorem dX3_joined_122 : decode cX3_joined 122 = .ok (.iload_n 1, 1) := by decide +kernel
theorem dX3_joined_123 : decode cX3_joined 123 = .ok (.iload_n 2, 1) := by decide +kernel
theorem dX3_joined_124 : decode cX3_joined 124 = .ok (.if_icmp .ne 7, 3) := by decide +kernel
theorem dX3_joined_127 : decode cX3_joined 127 = .ok (.iconst 1, 1) := by decide +kernel
theorem dX3_joined_128 : decode cX3_joined 128 = .ok (.goto 4, 3) := by decide +kernel
theorem dX3_joined_131 : decode cX3_joined 131 = .ok (.iconst 0, 1) := by decide +kernel
theorem dX3_joined_132 : decode cX3_joined 132 = .ok (.istore_n 3, 1) := by decide +kernel
theorem dX3_joined_133 : decode cX3_joined 133 = .ok (.goto 51, 3) := by decide +kernel
theorem dX3_joined_136 : decode cX3_joined 136 = .ok (.iload_n 1, 1) := by decide +kernel
theorem dX3_joined_137 : decode cX3_joined 137 = .ok (.iload_n 2, 1) := by decide +kernel
theorem dX3_joined_138 : decode cX3_joined 138 = .ok (.if_icmp .le 7, 3) := by decide +kernel
theorem dX3_joined_141 : decode cX3_joined 141 = .ok (.iconst 1, 1) := by decide +kernel
theorem dX3_joined_142 : decode cX3_joined 142 = .ok (.goto 4, 3) := by decide +kernel
theorem dX3_joined_145 : decode cX3_joined 145 = .ok (.iconst 0, 1) := by decide +kernel
theorem dX3_joined_146 : decode cX3_joined 146 = .ok (.istore_n 3, 1) := by decide +kernel
theorem dX3_joined_147 : decode cX3_joined 147 = .ok (.goto 37, 3) := by decide +kernel
theorem dX3_joined_150 : decode cX3_joined 150 = .ok (.iload_n 1, 1) := by decide +kernel
theorem dX3_joined_151 : decode cX3_joined 151 = .ok (.ifCond .eq 11, 3) := by decide +kernel
theorem dX3_joined_154 : decode cX3_joined 154 = .ok (.iload_n 2, 1) := by decide +kernel
theorem dX3_joined_155 : decode cX3_joined 155 = .ok (.ifCond .eq 7, 3) := by decide +kernel
theorem dX3_joined_158 : decode cX3_joined 158 = .ok (.iconst 1, 1) := by decide +kernel
theorem dX3_joined_159 : decode cX3_joined 159 = .ok (.goto 4, 3) := by decide +kernel
theorem dX3_joined_162 : decode cX3_joined 162 = .ok (.iconst 0, 1) := by decide +kernel
theorem dX3_joined_163 : decode cX3_joined 163 = .ok (.istore_n 3, 1) := by decide +kernel
theorem dX3_joined_164 : decode cX3_joined 164 = .ok (.goto 20, 3) := by decide +kernel
theorem dX3_joined_167 : decode cX3_joined 167 = .ok (.iload_n 1, 1) := by decide +kernel
theorem dX3_joined_168 : decode cX3_joined 168 = .ok (.ifCond .ne 7, 3) := by decide +kernel
theorem dX3_joined_171 : decode cX3_joined 171 = .ok (.iload_n 2, 1) := by decide +kernel
theorem dX3_joined_172 : decode cX3_joined 172 = .ok (.ifCond .eq 7, 3) := by decide +kernel
theorem dX3_joined_175 : decode cX3_joined 175 = .ok (.iconst 1, 1) := by decide +kernel
theorem dX3_joined_176 : decode cX3_joined 176 = .ok (.goto 4, 3) := by decide +kernel
theorem dX3_joined_179 : decode cX3_joined 179 = .ok (.iconst 0, 1) := by decide +kernel
theorem dX3_joined_180 : decode cX3_joined 180 = .ok (.istore_n 3, 1) := by decide +kernel
theorem dX3_joined_181 : decode cX3_joined 181 = .ok (.goto 3, 3) := by decide +kernel
theorem dX3_joined_184 : decode cX3_joined 184 = .ok (.iload_n 3, 1) := by decide +kernel
theorem dX3_joined_185 : decode cX3_joined 185 = .ok (.ifCond .eq 7, 3) := by decide +kernel
theorem dX3_joined_188 : decode cX3_joined 188 = .ok (.iconst 1, 1) := by decide +kernel
theorem dX3_joined_189 : decode cX3_joined 189 = .ok (.goto 4, 3) := by decide +kernel
theorem dX3_joined_192 : decode cX3_joined 192 = .ok (.iconst 0, 1) := by decide +kernel
theorem dX3_joined_193 : decode cX3_joined 193 = .ok (.ireturn, 1) := by decide +kernel
theorem dX4_init_0 : decode cX4_init 0 = .ok (.aload_n 0, 1) := by decide +kernel
theorem dX4_init_1 : decode cX4_init 1 = .ok (.invokespecial 3, 3) := by decide +kernel
theorem dX4_init_4 : decode cX4_init 4 = .ok (.aload_n 0, 1) := by decide +kernel
theorem dX4_init_5 : decode cX4_init 5 = .ok (.sipush 256, 3) := by decide +kernel
theorem dX4_init_8 : decode cX4_init 8 = .ok (.newarray .int, 2) := by decide +kernel
theorem dX4_init_10 : decode cX4_init 10 = .ok (.putfield 11, 3) := by decide +kernel
theorem dX4_init_13 : decode cX4_init 13 = .ok (.aload_n 0, 1) := by decide +kernel
theorem dX4_init_14 : decode cX4_init 14 = .ok (.sipush 256, 3) := by decide +kernel
theorem dX4_init_17 : decode cX4_init 17 = .ok (.newarray .int, 2) := by decide +kernel
theorem dX4_init_19 : decode cX4_init 19 = .ok (.putfield 15, 3) := by decide +kernel
theorem dX4_init_22 : decode cX4_init 22 = .ok (.aload_n 0, 1) := by decide +kernel
theorem dX4_init_23 : decode cX4_init 23 = .ok (.sipush 2048, 3) := by decide +kernel
theorem dX4_init_26 : decode cX4_init 26 = .ok (.newarray .int, 2) := by decide +kernel
theorem dX4_init_28 : decode cX4_init 28 = .ok (.putfield 18, 3) := by decide +kernel
theorem dX4_init_31 : decode cX4_init 31 = .ok (.aload_n 0, 1) := by decide +kernel
theorem dX4_init_32 : decode cX4_init 32 = .ok (.bipush 12, 2) := by decide +kernel
theorem dX4_init_34 : decode cX4_init 34 = .ok (.newarray .int, 2) := by decide +kernel
theorem dX4_init_36 : decode cX4_init 36 = .ok (.putfield 21, 3) := by decide +kernel
theorem dX4_init_39 : decode cX4_init 39 = .ok (.aload_n 0, 1) := by decide +kernel
theorem dX4_init_40 : decode cX4_init 40 = .ok (.bipush 8, 2) := by decide +kernel
theorem dX4_init_42 : decode cX4_init 42 = .ok (.newarray .int, 2) := by decide +kernel
theorem dX4_init_44 : decode cX4_init 44 = .ok (.putfield 24, 3) := by decide +kernel
theorem dX4_init_47 : decode cX4_init 47 = .ok (.aload_n 0, 1) := by decide +kernel
theorem dX4_init_48 : decode cX4_init 48 = .ok (.bipush 41, 2) := by decide +kernel
theorem dX4_init_50 : decode cX4_init 50 = .ok (.newarray .long, 2) := by decide +kernel
theorem dX4_init_52 : decode cX4_init 52 = .ok (.putfield 27, 3) := by decide +kernel
theorem dX4_init_55 : decode cX4_init 55 = .ok (.aload_n 0, 1) := by decide +kernel
theorem dX4_init_56 : decode cX4_init 56 = .ok (.bipush 13, 2) := by decide +kernel
theorem dX4_init_58 : decode cX4_init 58 = .ok (.newarray .long, 2) := by decide +kernel
theorem dX4_init_60 : decode cX4_init 60 = .ok (.putfield 31, 3) := by decide +kernel
theorem dX4_init_63 : decode cX4_init 63 = .ok (.aload_n 0, 1) := by decide +kernel
theorem dX4_init_64 : decode cX4_init 64 = .ok (.sipush 169, 3) := by decide +kernel
theorem dX4_init_67 : decode cX4_init 67 = .ok (.newarray .int, 2) := by decide +kernel
theorem dX4_init_69 : decode cX4_init 69 = .ok (.putfield 34, 3) := by decide +kernel
theorem dX4_init_72 : decode cX4_init 72 = .ok (.aload_n 0, 1) := by decide +kernel
theorem dX4_init_73 : decode cX4_init 73 = .ok (.sipush 169, 3) := by decide +kernel
theorem dX4_init_76 : decode cX4_init 76 = .ok (.newarray .int, 2) := by decide +kernel
theorem dX4_init_78 : decode cX4_init 78 = .ok (.putfield 37, 3) := by decide +kernel
theorem dX4_init_81 : decode cX4_init 81 = .ok (.aload_n 0, 1) := by decide +kernel
theorem dX4_init_82 : decode cX4_init 82 = .ok (.iconst 3, 1) := by decide +kernel
theorem dX4_init_83 : decode cX4_init 83 = .ok (.newarray .int, 2) := by decide +kernel
theorem dX4_init_85 : decode cX4_init 85 = .ok (.putfield 40, 3) := by decide +kernel
theorem dX4_init_88 : decode cX4_init 88 = .ok (.aload_n 0, 1) := by decide +kernel
theorem dX4_init_89 : decode cX4_init 89 = .ok (.iconst 3, 1) := by decide +kernel
theorem dX4_init_90 : decode cX4_init 90 = .ok (.newarray .int, 2) := by decide +kernel
theorem dX4_init_92 : decode cX4_init 92 = .ok (.putfield 43, 3) := by decide +kernel
theorem dX4_init_95 : decode cX4_init 95 = .ok (.aload_n 0, 1) := by decide +kernel
theorem dX4_init_96 : decode cX4_init 96 = .ok (.bipush 9, 2) := by decide +kernel
theorem dX4_init_98 : decode cX4_init 98 = .ok (.newarray .int, 2) := by decide +kernel
theorem dX4_init_100 : decode cX4_init 100 = .ok (.putfield 46, 3) := by decide +kernel
theorem dX4_init_103 : decode cX4_init 103 = .ok (.aload_n 0, 1) := by decide +kernel
theorem dX4_init_104 : decode cX4_init 104 = .ok (.bipush 9, 2) := by decide +kernel
theorem dX4_init_106 : decode cX4_init 106 = .ok (.newarray .int, 2) := by decide +kernel
theorem dX4_init_108 : decode cX4_init 108 = .ok (.putfield 49, 3) := by decide +kernel
theorem dX4_init_111 : decode cX4_init 111 = .ok (.aload_n 0, 1) := by decide +kernel
theorem dX4_init_112 : decode cX4_init 112 = .ok (.iconst 0, 1) := by decide +kernel
theorem dX4_init_113 : decode cX4_init 113 = .ok (.putfield 52, 3) := by decide +kernel
theorem dX4_init_116 : decode cX4_init 116 = .ok (.aload_n 0, 1) := by decide +kernel
theorem dX4_init_117 : decode cX4_init 117 = .ok (.aload_n 1, 1) := by decide +kernel
theorem dX4_init_118 : decode cX4_init 118 = .ok (.putfield 56, 3) := by decide +kernel
theorem dX4_init_121 : decode cX4_init 121 = .ok (.return_, 1) := by decide +kernel
theorem dX4_allForward_0 : decode cX4_allForward 0 = .ok (.iconst 0, 1) := by decide +kernel
theorem dX4_allForward_1 : decode cX4_allForward 1 = .ok (.istore_n 1, 1) := by decide +kernel
theorem dX4_allForward_2 : decode cX4_allForward 2 = .ok (.iconst 1, 1) := by decide +kernel
theorem dX4_allForward_3 : decode cX4_allForward 3 = .ok (.istore_n 2, 1) := by decide +kernel
theorem dX4_allForward_4 : decode cX4_allForward 4 = .ok (.iconst 0, 1) := by decide +kernel
theorem dX4_allForward_5 : decode cX4_allForward 5 = .ok (.istore_n 3, 1) := by decide +kernel
theorem dX4_allForward_6 : decode cX4_allForward 6 = .ok (.iload_n 3, 1) := by decide +kernel
theorem dX4_allForward_7 : decode cX4_allForward 7 = .ok (.aload_n 0, 1) := by decide +kernel
theorem dX4_allForward_8 : decode cX4_allForward 8 = .ok (.getfield 56, 3) := by decide +kernel
theorem dX4_allForward_11 : decode cX4_allForward 11 = .ok (.getfield 60, 3) := by decide +kernel
theorem dX4_allForward_14 : decode cX4_allForward 14 = .ok (.invokevirtual 66, 3) := by decide +kernel
theorem dX4_allForward_17 : decode cX4_allForward 17 = .ok (.if_icmp .ge 92, 3) := by decide +kernel
theorem dX4_allForward_20 : decode cX4_allForward 20 = .ok (.aload_n 0, 1) := by decide +kernel
theorem dX4_allForward_21 : decode cX4_allForward 21 = .ok (.getfield 56, 3) := by decide +kernel
theorem dX4_allForward_24 : decode cX4_allForward 24 = .ok (.getfield 60, 3) := by decide +kernel
theorem dX4_allForward_27 : decode cX4_allForward 27 = .ok (.iload_n 3, 1) := by decide +kernel
theorem dX4_allForward_28 : decode cX4_allForward 28 = .ok (.iconst 0, 1) := by decide +kernel
theorem dX4_allForward_29 : decode cX4_allForward 29 = .ok (.invokevirtual 72, 3) := by decide +kernel
theorem dX4_allForward_32 : decode cX4_allForward 32 = .ok (.istore 4, 2) := by decide +kernel
theorem dX4_allForward_34 : decode cX4_allForward 34 = .ok (.aload_n 0, 1) := by decide +kernel
theorem dX4_allForward_35 : decode cX4_allForward 35 = .ok (.getfield 56, 3) := by decide +kernel
theorem dX4_allForward_38 : decode cX4_allForward 38 = .ok (.getfield 60, 3) := by decide +kernel
theorem dX4_allForward_41 : decode cX4_allForward 41 = .ok (.iload_n 3, 1) := by decide +kernel
theorem dX4_allForward_42 : decode cX4_allForward 42 = .ok (.iconst 1, 1) := by decide +kernel
theorem dX4_allForward_43 : decode cX4_allForward 43 = .ok (.invokevirtual 72, 3) := by decide +kernel
theorem dX4_allForward_46 : decode cX4_allForward 46 = .ok (.istore 5, 2) := by decide +kernel
theorem dX4_allForward_48 : decode cX4_allForward 48 = .ok (.iload 4, 2) := by decide +kernel
theorem dX4_allForward_50 : decode cX4_allForward 50 = .ok (.iconst 1, 1) := by decide +kernel
theorem dX4_allForward_51 : decode cX4_allForward 51 = .ok (.if_icmp .ge 5, 3) := by decide +kernel
theorem dX4_allForward_54 : decode cX4_allForward 54 = .ok (.iconst (-1), 1) := by decide +kernel
theorem dX4_allForward_55 : decode cX4_allForward 55 = .ok (.ireturn, 1) := by decide +kernel
theorem dX4_allForward_56 : decode cX4_allForward 56 = .ok (.iconst 1, 1) := by decide +kernel
theorem dX4_allForward_57 : decode cX4_allForward 57 = .ok (.istore 6, 2) := by decide +kernel
theorem dX4_allForward_59 : decode cX4_allForward 59 = .ok (.iload 6, 2) := by decide +kernel
theorem dX4_allForward_61 : decode cX4_allForward 61 = .ok (.iload 4, 2) := by decide +kernel
theorem dX4_allForward_63 : decode cX4_allForward 63 = .ok (.if_icmp .ge 22, 3) := by decide +kernel
theorem dX4_allForward_66 : decode cX4_allForward 66 = .ok (.iload_n 1, 1) := by decide +kernel
theorem dX4_allForward_67 : decode cX4_allForward 67 = .ok (.iload 4, 2) := by decide +kernel
theorem dX4_allForward_69 : decode cX4_allForward 69 = .ok (.irem, 1) := by decide +kernel
theorem dX4_allForward_70 : decode cX4_allForward 70 = .ok (.iload 5, 2) := by decide +kernel
theorem dX4_allForward_72 : decode cX4_allForward 72 = .ok (.if_icmp .eq 13, 3) := by decide +kernel
theorem dX4_allForward_75 : decode cX4_allForward 75 = .ok (.iload_n 1, 1) := by decide +kernel
theorem dX4_allForward_76 : decode cX4_allForward 76 = .ok (.iload_n 2, 1) := by decide +kernel
theorem dX4_allForward_77 : decode cX4_allForward 77 = .ok (.iadd, 1) := by decide +kernel
theorem dX4_allForward_78 : decode cX4_allForward 78 = .ok (.istore_n 1, 1) := by decide +kernel
theorem dX4_allForward_79 : decode cX4_allForward 79 = .ok (.iinc 6 1, 3) := by decide +kernel
theorem dX4_allForward_82 : decode cX4_allForward 82 = .ok (.goto (-23), 3) := by decide +kernel
theorem dX4_allForward_85 : decode cX4_allForward 85 = .ok (.iload_n 1, 1) := by decide +kernel
theorem dX4_allForward_86 : decode cX4_allForward 86 = .ok (.iload 4, 2) := by decide +kernel
theorem dX4_allForward_88 : decode cX4_allForward 88 = .ok (.irem, 1) := by decide +kernel
theorem dX4_allForward_89 : decode cX4_allForward 89 = .ok (.iload 5, 2) := by decide +kernel
theorem dX4_allForward_91 : decode cX4_allForward 91 = .ok (.if_icmp .eq 5, 3) := by decide +kernel
theorem dX4_allForward_94 : decode cX4_allForward 94 = .ok (.iconst (-1), 1) := by decide +kernel
theorem dX4_allForward_95 : decode cX4_allForward 95 = .ok (.ireturn, 1) := by decide +kernel
theorem dX4_allForward_96 : decode cX4_allForward 96 = .ok (.iload_n 2, 1) := by decide +kernel
theorem dX4_allForward_97 : decode cX4_allForward 97 = .ok (.iload 4, 2) := by decide +kernel
theorem dX4_allForward_99 : decode cX4_allForward 99 = .ok (.invokestatic 76, 3) := by decide +kernel
theorem dX4_allForward_102 : decode cX4_allForward 102 = .ok (.istore_n 2, 1) := by decide +kernel
theorem dX4_allForward_103 : decode cX4_allForward 103 = .ok (.iinc 3 1, 3) := by decide +kernel
theorem dX4_allForward_106 : decode cX4_allForward 106 = .ok (.goto (-100), 3) := by decide +kernel
theorem dX4_allForward_109 : decode cX4_allForward 109 = .ok (.iload_n 1, 1) := by decide +kernel
theorem dX4_allForward_110 : decode cX4_allForward 110 = .ok (.sipush 9999, 3) := by decide +kernel
theorem dX4_allForward_113 : decode cX4_allForward 113 = .ok (.if_icmp .gt 7, 3) := by decide +kernel
theorem dX4_allForward_116 : decode cX4_allForward 116 = .ok (.iload_n 1, 1) := by decide +kernel
theorem dX4_allForward_117 : decode cX4_allForward 117 = .ok (.goto 4, 3) := by decide +kernel
theorem dX4_allForward_120 : decode cX4_allForward 120 = .ok (.iconst (-1), 1) := by decide +kernel
theorem dX4_allForward_121 : decode cX4_allForward 121 = .ok (.ireturn, 1) := by decide +kernel
theorem dX4_commonStride_0 : decode cX4_commonStride 0 = .ok (.iload_n 0, 1) := by decide +kernel
theorem dX4_commonStride_1 : decode cX4_commonStride 1 = .ok (.istore_n 2, 1) := by decide +kernel
theorem dX4_commonStride_2 : decode cX4_commonStride 2 = .ok (.iconst 1, 1) := by decide +kernel
theorem dX4_commonStride_3 : decode cX4_commonStride 3 = .ok (.istore_n 3, 1) := by decide +kernel
theorem dX4_commonStride_4 : decode cX4_commonStride 4 = .ok (.iload_n 3, 1) := by decide +kernel
theorem dX4_commonStride_5 : decode cX4_commonStride 5 = .ok (.iload_n 1, 1) := by decide +kernel
theorem dX4_commonStride_6 : decode cX4_commonStride 6 = .ok (.if_icmp .ge 19, 3) := by decide +kernel
theorem dX4_commonStride_9 : decode cX4_commonStride 9 = .ok (.iload_n 2, 1) := by decide +kernel
theorem dX4_commonStride_10 : decode cX4_commonStride 10 = .ok (.iload_n 1, 1) := by decide +kernel
theorem dX4_commonStride_11 : decode cX4_commonStride 11 = .ok (.irem, 1) := by decide +kernel
theorem dX4_commonStride_12 : decode cX4_commonStride 12 = .ok (.ifCond .eq 13, 3) := by decide +kernel
theorem dX4_commonStride_15 : decode cX4_commonStride 15 = .ok (.iload_n 2, 1) := by decide +kernel
theorem dX4_commonStride_16 : decode cX4_commonStride 16 = .ok (.iload_n 0, 1) := by decide +kernel
theorem dX4_commonStride_17 : decode cX4_commonStride 17 = .ok (.iadd, 1) := by decide +kernel
theorem dX4_commonStride_18 : decode cX4_commonStride 18 = .ok (.istore_n 2, 1) := by decide +kernel
theorem dX4_commonStride_19 : decode cX4_commonStride 19 = .ok (.iinc 3 1, 3) := by decide +kernel
theorem dX4_commonStride_22 : decode cX4_commonStride 22 = .ok (.goto (-18), 3) := by decide +kernel
theorem dX4_commonStride_25 : decode cX4_commonStride 25 = .ok (.iload_n 2, 1) := by decide +kernel
theorem dX4_commonStride_26 : decode cX4_commonStride 26 = .ok (.ireturn, 1) := by decide +kernel
theorem dX4_mostForward_0 : decode cX4_mostForward 0 = .ok (.iconst 0, 1) := by decide +kernel
theorem dX4_mostForward_1 : decode cX4_mostForward 1 = .ok (.istore_n 1, 1) := by decide +kernel
theorem dX4_mostForward_2 : decode cX4_mostForward 2 = .ok (.iconst 0, 1) := by decide +kernel
theorem dX4_mostForward_3 : decode cX4_mostForward 3 = .ok (.istore_n 2, 1) := by decide +kernel
theorem dX4_mostForward_4 : decode cX4_mostForward 4 = .ok (.iload_n 2, 1) := by decide +kernel
theorem dX4_mostForward_5 : decode cX4_mostForward 5 = .ok (.bipush 100, 2) := by decide +kernel
theorem dX4_mostForward_7 : decode cX4_mostForward 7 = .ok (.if_icmp .ge 84, 3) := by decide +kernel
theorem dX4_mostForward_10 : decode cX4_mostForward 10 = .ok (.iconst 0, 1) := by decide +kernel
theorem dX4_mostForward_11 : decode cX4_mostForward 11 = .ok (.istore_n 3, 1) := by decide +kernel
theorem dX4_mostForward_12 : decode cX4_mostForward 12 = .ok (.iconst 0, 1) := by decide +kernel
theorem dX4_mostForward_13 : decode cX4_mostForward 13 = .ok (.istore 4, 2) := by decide +kernel
theorem dX4_mostForward_15 : decode cX4_mostForward 15 = .ok (.iload 4, 2) := by decide +kernel
theorem dX4_mostForward_17 : decode cX4_mostForward 17 = .ok (.aload_n 0, 1) := by decide +kernel
theorem dX4_mostForward_18 : decode cX4_mostForward 18 = .ok (.getfield 56, 3) := by decide +kernel
theorem dX4_mostForward_21 : decode cX4_mostForward 21 = .ok (.getfield 60, 3) := by decide +kernel
theorem dX4_mostForward_24 : decode cX4_mostForward 24 = .ok (.invokevirtual 66, 3) := by decide +kernel
theorem dX4_mostForward_27 : decode cX4_mostForward 27 = .ok (.if_icmp .ge 52, 3) := by decide +kernel
theorem dX4_mostForward_30 : decode cX4_mostForward 30 = .ok (.aload_n 0, 1) := by decide +kernel
theorem dX4_mostForward_31 : decode cX4_mostForward 31 = .ok (.getfield 56, 3) := by decide +kernel
theorem dX4_mostForward_34 : decode cX4_mostForward 34 = .ok (.getfield 60, 3) := by decide +kernel
theorem dX4_mostForward_37 : decode cX4_mostForward 37 = .ok (.iload 4, 2) := by decide +kernel
theorem dX4_mostForward_39 : decode cX4_mostForward 39 = .ok (.iconst 0, 1) := by decide +kernel
theorem dX4_mostForward_40 : decode cX4_mostForward 40 = .ok (.invokevirtual 72, 3) := by decide +kernel
theorem dX4_mostForward_43 : decode cX4_mostForward 43 = .ok (.istore 5, 2) := by decide +kernel
theorem dX4_mostForward_45 : decode cX4_mostForward 45 = .ok (.iload 5, 2) := by decide +kernel
theorem dX4_mostForward_47 : decode cX4_mostForward 47 = .ok (.ifCond .le 26, 3) := by decide +kernel
theorem dX4_mostForward_50 : decode cX4_mostForward 50 = .ok (.iload_n 2, 1) := by decide +kernel
theorem dX4_mostForward_51 : decode cX4_mostForward 51 = .ok (.iload 5, 2) := by decide +kernel
theorem dX4_mostForward_53 : decode cX4_mostForward 53 = .ok (.irem, 1) := by decide +kernel
theorem dX4_mostForward_54 : decode cX4_mostForward 54 = .ok (.aload_n 0, 1) := by decide +kernel
theorem dX4_mostForward_55 : decode cX4_mostForward 55 = .ok (.getfield 56, 3) := by decide +kernel
theorem dX4_mostForward_58 : decode cX4_mostForward 58 = .ok (.getfield 60, 3) := by decide +kernel
theorem dX4_mostForward_61 : decode cX4_mostForward 61 = .ok (.iload 4, 2) := by decide +kernel
theorem dX4_mostForward_63 : decode cX4_mostForward 63 = .ok (.iconst 1, 1) := by decide +kernel
theorem dX4_mostForward_64 : decode cX4_mostForward 64 = .ok (.invokevirtual 72, 3) := by decide +kernel
theorem dX4_mostForward_67 : decode cX4_mostForward 67 = .ok (.if_icmp .ne 6, 3) := by decide +kernel
theorem dX4_mostForward_70 : decode cX4_mostForward 70 = .ok (.iinc 3 1, 3) := by decide +kernel
theorem dX4_mostForward_73 : decode cX4_mostForward 73 = .ok (.iinc 4 1, 3) := by decide +kernel
theorem dX4_mostForward_76 : decode cX4_mostForward 76 = .ok (.goto (-61), 3) := by decide +kernel
theorem dX4_mostForward_79 : decode cX4_mostForward 79 = .ok (.iload_n 1, 1) := by decide +kernel
theorem dX4_mostForward_80 : decode cX4_mostForward 80 = .ok (.iload_n 3, 1) := by decide +kernel
theorem dX4_mostForward_81 : decode cX4_mostForward 81 = .ok (.invokestatic 79, 3) := by decide +kernel
theorem dX4_mostForward_84 : decode cX4_mostForward 84 = .ok (.istore_n 1, 1) := by decide +kernel
theorem dX4_mostForward_85 : decode cX4_mostForward 85 = .ok (.iinc 2 1, 3) := by decide +kernel
theorem dX4_mostForward_88 : decode cX4_mostForward 88 = .ok (.goto (-84), 3) := by decide +kernel
theorem dX4_mostForward_91 : decode cX4_mostForward 91 = .ok (.iload_n 1, 1) := by decide +kernel
theorem dX4_mostForward_92 : decode cX4_mostForward 92 = .ok (.ireturn, 1) := by decide +kernel
theorem dX4_carried_0 : decode cX4_carried 0 = .ok (.aload_n 0, 1) := by decide +kernel
theorem dX4_carried_1 : decode cX4_carried 1 = .ok (.getfield 21, 3) := by decide +kernel
theorem dX4_carried_4 : decode cX4_carried 4 = .ok (.iconst (-1), 1) := by decide +kernel
theorem dX4_carried_5 : decode cX4_carried 5 = .ok (.invokestatic 84, 3) := by decide +kernel
theorem dX4_carried_8 : decode cX4_carried 8 = .ok (.iload_n 1, 1) := by decide +kernel
theorem dX4_carried_9 : decode cX4_carried 9 = .ok (.iconst 0, 1) := by decide +kernel
theorem dX4_carried_10 : decode cX4_carried 10 = .ok (.bipush 7, 2) := by decide +kernel
theorem dX4_carried_12 : decode cX4_carried 12 = .ok (.invokestatic 90, 3) := by decide +kernel
theorem dX4_carried_15 : decode cX4_carried 15 = .ok (.ifCond .eq 13, 3) := by decide +kernel
theorem dX4_carried_18 : decode cX4_carried 18 = .ok (.iload_n 3, 1) := by decide +kernel
theorem dX4_carried_19 : decode cX4_carried 19 = .ok (.iconst 0, 1) := by decide +kernel
theorem dX4_carried_20 : decode cX4_carried 20 = .ok (.bipush 7, 2) := by decide +kernel
theorem dX4_carried_22 : decode cX4_carried 22 = .ok (.invokestatic 90, 3) := by decide +kernel
theorem dX4_carried_25 : decode cX4_carried 25 = .ok (.ifCond .ne 5, 3) := by decide +kernel
theorem dX4_carried_28 : decode cX4_carried 28 = .ok (.iconst (-1), 1) := by decide +kernel
theorem dX4_carried_29 : decode cX4_carried 29 = .ok (.ireturn, 1) := by decide +kernel
theorem dX4_carried_30 : decode cX4_carried 30 = .ok (.aload_n 0, 1) := by decide +kernel
theorem dX4_carried_31 : decode cX4_carried 31 = .ok (.getfield 21, 3) := by decide +kernel
theorem dX4_carried_34 : decode cX4_carried 34 = .ok (.iload_n 1, 1) := by decide +kernel
theorem dX4_carried_35 : decode cX4_carried 35 = .ok (.iload_n 2, 1) := by decide +kernel
theorem dX4_carried_36 : decode cX4_carried 36 = .ok (.iastore, 1) := by decide +kernel
theorem dX4_carried_37 : decode cX4_carried 37 = .ok (.iconst 0, 1) := by decide +kernel
theorem dX4_carried_38 : decode cX4_carried 38 = .ok (.istore 4, 2) := by decide +kernel
theorem dX4_carried_40 : decode cX4_carried 40 = .ok (.iload 4, 2) := by decide +kernel
theorem dX4_carried_42 : decode cX4_carried 42 = .ok (.aload_n 0, 1) := by decide +kernel
theorem dX4_carried_43 : decode cX4_carried 43 = .ok (.getfield 56, 3) := by decide +kernel
theorem dX4_carried_46 : decode cX4_carried 46 = .ok (.getfield 94, 3) := by decide +kernel
theorem dX4_carried_49 : decode cX4_carried 49 = .ok (.invokevirtual 66, 3) := by decide +kernel
theorem dX4_carried_52 : decode cX4_carried 52 = .ok (.if_icmp .ge 39, 3) := by decide +kernel
theorem dX4_carried_55 : decode cX4_carried 55 = .ok (.iconst 0, 1) := by decide +kernel
theorem dX4_carried_56 : decode cX4_carried 56 = .ok (.istore 5, 2) := by decide +kernel
theorem dX4_carried_58 : decode cX4_carried 58 = .ok (.iload 5, 2) := by decide +kernel
theorem dX4_carried_60 : decode cX4_carried 60 = .ok (.aload_n 0, 1) := by decide +kernel
theorem dX4_carried_61 : decode cX4_carried 61 = .ok (.getfield 56, 3) := by decide +kernel
theorem dX4_carried_64 : decode cX4_carried 64 = .ok (.getfield 94, 3) := by decide +kernel
theorem dX4_carried_67 : decode cX4_carried 67 = .ok (.invokevirtual 66, 3) := by decide +kernel
theorem dX4_carried_70 : decode cX4_carried 70 = .ok (.if_icmp .ge 15, 3) := by decide +kernel
theorem dX4_carried_73 : decode cX4_carried 73 = .ok (.aload_n 0, 1) := by decide +kernel
theorem dX4_carried_74 : decode cX4_carried 74 = .ok (.iload 5, 2) := by decide +kernel
theorem dX4_carried_76 : decode cX4_carried 76 = .ok (.invokevirtual 97, 3) := by decide +kernel
theorem dX4_carried_79 : decode cX4_carried 79 = .ok (.iinc 5 1, 3) := by decide +kernel
theorem dX4_carried_82 : decode cX4_carried 82 = .ok (.goto (-24), 3) := by decide +kernel
theorem dX4_carried_85 : decode cX4_carried 85 = .ok (.iinc 4 1, 3) := by decide +kernel
theorem dX4_carried_88 : decode cX4_carried 88 = .ok (.goto (-48), 3) := by decide +kernel
theorem dX4_carried_91 : decode cX4_carried 91 = .ok (.aload_n 0, 1) := by decide +kernel
theorem dX4_carried_92 : decode cX4_carried 92 = .ok (.getfield 21, 3) := by decide +kernel
theorem dX4_carried_95 : decode cX4_carried 95 = .ok (.iload_n 3, 1) := by decide +kernel
theorem dX4_carried_96 : decode cX4_carried 96 = .ok (.iaload, 1) := by decide +kernel
theorem dX4_carried_97 : decode cX4_carried 97 = .ok (.ireturn, 1) := by decide +kernel
theorem dX4_carryOn_0 : decode cX4_carryOn 0 = .ok (.aload_n 0, 1) := by decide +kernel
theorem dX4_carryOn_1 : decode cX4_carryOn 1 = .ok (.getfield 56, 3) := by decide +kernel
theorem dX4_carryOn_4 : decode cX4_carryOn 4 = .ok (.getfield 94, 3) := by decide +kernel
theorem dX4_carryOn_7 : decode cX4_carryOn 7 = .ok (.iload_n 1, 1) := by decide +kernel
theorem dX4_carryOn_8 : decode cX4_carryOn 8 = .ok (.iconst 0, 1) := by decide +kernel
theorem dX4_carryOn_9 : decode cX4_carryOn 9 = .ok (.invokevirtual 72, 3) := by decide +kernel
theorem dX4_carryOn_12 : decode cX4_carryOn 12 = .ok (.istore_n 2, 1) := by decide +kernel
theorem dX4_carryOn_13 : decode cX4_carryOn 13 = .ok (.aload_n 0, 1) := by decide +kernel
theorem dX4_carryOn_14 : decode cX4_carryOn 14 = .ok (.getfield 56, 3) := by decide +kernel
theorem dX4_carryOn_17 : decode cX4_carryOn 17 = .ok (.getfield 94, 3) := by decide +kernel
theorem dX4_carryOn_20 : decode cX4_carryOn 20 = .ok (.iload_n 1, 1) := by decide +kernel
theorem dX4_carryOn_21 : decode cX4_carryOn 21 = .ok (.iconst 1, 1) := by decide +kernel
theorem dX4_carryOn_22 : decode cX4_carryOn 22 = .ok (.invokevirtual 72, 3) := by decide +kernel
theorem dX4_carryOn_25 : decode cX4_carryOn 25 = .ok (.istore_n 3, 1) := by decide +kernel
theorem dX4_carryOn_26 : decode cX4_carryOn 26 = .ok (.aload_n 0, 1) := by decide +kernel
theorem dX4_carryOn_27 : decode cX4_carryOn 27 = .ok (.getfield 56, 3) := by decide +kernel
theorem dX4_carryOn_30 : decode cX4_carryOn 30 = .ok (.getfield 94, 3) := by decide +kernel
theorem dX4_carryOn_33 : decode cX4_carryOn 33 = .ok (.iload_n 1, 1) := by decide +kernel
theorem dX4_carryOn_34 : decode cX4_carryOn 34 = .ok (.iconst 3, 1) := by decide +kernel
theorem dX4_carryOn_35 : decode cX4_carryOn 35 = .ok (.invokevirtual 72, 3) := by decide +kernel
theorem dX4_carryOn_38 : decode cX4_carryOn 38 = .ok (.istore 4, 2) := by decide +kernel
theorem dX4_carryOn_40 : decode cX4_carryOn 40 = .ok (.iload_n 2, 1) := by decide +kernel
theorem dX4_carryOn_41 : decode cX4_carryOn 41 = .ok (.iconst 0, 1) := by decide +kernel
theorem dX4_carryOn_42 : decode cX4_carryOn 42 = .ok (.bipush 7, 2) := by decide +kernel
theorem dX4_carryOn_44 : decode cX4_carryOn 44 = .ok (.invokestatic 90, 3) := by decide +kernel
theorem dX4_carryOn_47 : decode cX4_carryOn 47 = .ok (.ifCond .eq 13, 3) := by decide +kernel
theorem dX4_carryOn_50 : decode cX4_carryOn 50 = .ok (.iload_n 3, 1) := by decide +kernel
theorem dX4_carryOn_51 : decode cX4_carryOn 51 = .ok (.iconst 0, 1) := by decide +kernel
theorem dX4_carryOn_52 : decode cX4_carryOn 52 = .ok (.bipush 7, 2) := by decide +kernel
theorem dX4_carryOn_54 : decode cX4_carryOn 54 = .ok (.invokestatic 90, 3) := by decide +kernel
theorem dX4_carryOn_57 : decode cX4_carryOn 57 = .ok (.ifCond .ne 4, 3) := by decide +kernel
theorem dX4_carryOn_60 : decode cX4_carryOn 60 = .ok (.return_, 1) := by decide +kernel
theorem dX4_carryOn_61 : decode cX4_carryOn 61 = .ok (.aload_n 0, 1) := by decide +kernel
theorem dX4_carryOn_62 : decode cX4_carryOn 62 = .ok (.getfield 21, 3) := by decide +kernel
theorem dX4_carryOn_65 : decode cX4_carryOn 65 = .ok (.iload_n 2, 1) := by decide +kernel
theorem dX4_carryOn_66 : decode cX4_carryOn 66 = .ok (.iaload, 1) := by decide +kernel
theorem dX4_carryOn_67 : decode cX4_carryOn 67 = .ok (.iconst (-1), 1) := by decide +kernel
theorem dX4_carryOn_68 : decode cX4_carryOn 68 = .ok (.if_icmp .eq 24, 3) := by decide +kernel
theorem dX4_carryOn_71 : decode cX4_carryOn 71 = .ok (.aload_n 0, 1) := by decide +kernel
theorem dX4_carryOn_72 : decode cX4_carryOn 72 = .ok (.getfield 21, 3) := by decide +kernel
theorem dX4_carryOn_75 : decode cX4_carryOn 75 = .ok (.iload_n 2, 1) := by decide +kernel
theorem dX4_carryOn_76 : decode cX4_carryOn 76 = .ok (.iaload, 1) := by decide +kernel
theorem dX4_carryOn_77 : decode cX4_carryOn 77 = .ok (.aload_n 0, 1) := by decide +kernel
theorem dX4_carryOn_78 : decode cX4_carryOn 78 = .ok (.getfield 56, 3) := by decide +kernel
theorem dX4_carryOn_81 : decode cX4_carryOn 81 = .ok (.getfield 94, 3) := by decide +kernel
theorem dX4_carryOn_84 : decode cX4_carryOn 84 = .ok (.iload_n 1, 1) := by decide +kernel
theorem dX4_carryOn_85 : decode cX4_carryOn 85 = .ok (.iconst 2, 1) := by decide +kernel
theorem dX4_carryOn_86 : decode cX4_carryOn 86 = .ok (.invokevirtual 72, 3) := by decide +kernel
theorem dX4_carryOn_89 : decode cX4_carryOn 89 = .ok (.if_icmp .le 4, 3) := by decide +kernel
theorem dX4_carryOn_92 : decode cX4_carryOn 92 = .ok (.return_, 1) := by decide +kernel
theorem dX4_carryOn_93 : decode cX4_carryOn 93 = .ok (.aload_n 0, 1) := by decide +kernel
theorem dX4_carryOn_94 : decode cX4_carryOn 94 = .ok (.getfield 21, 3) := by decide +kernel
theorem dX4_carryOn_97 : decode cX4_carryOn 97 = .ok (.iload_n 3, 1) := by decide +kernel
theorem dX4_carryOn_98 : decode cX4_carryOn 98 = .ok (.iaload, 1) := by decide +kernel
theorem dX4_carryOn_99 : decode cX4_carryOn 99 = .ok (.iconst (-1), 1) := by decide +kernel
theorem dX4_carryOn_100 : decode cX4_carryOn 100 = .ok (.if_icmp .eq 14, 3) := by decide +kernel
theorem dX4_carryOn_103 : decode cX4_carryOn 103 = .ok (.iload 4, 2) := by decide +kernel
theorem dX4_carryOn_105 : decode cX4_carryOn 105 = .ok (.aload_n 0, 1) := by decide +kernel
theorem dX4_carryOn_106 : decode cX4_carryOn 106 = .ok (.getfield 21, 3) := by decide +kernel
theorem dX4_carryOn_109 : decode cX4_carryOn 109 = .ok (.iload_n 3, 1) := by decide +kernel
theorem dX4_carryOn_110 : decode cX4_carryOn 110 = .ok (.iaload, 1) := by decide +kernel
theorem dX4_carryOn_111 : decode cX4_carryOn 111 = .ok (.if_icmp .ge 11, 3) := by decide +kernel
theorem dX4_carryOn_114 : decode cX4_carryOn 114 = .ok (.aload_n 0, 1) := by decide +kernel
theorem dX4_carryOn_115 : decode cX4_carryOn 115 = .ok (.getfield 21, 3) := by decide +kernel
theorem dX4_carryOn_118 : decode cX4_carryOn 118 = .ok (.iload_n 3, 1) := by decide +kernel
theorem dX4_carryOn_119 : decode cX4_carryOn 119 = .ok (.iload 4, 2) := by decide +kernel
theorem dX4_carryOn_121 : decode cX4_carryOn 121 = .ok (.iastore, 1) := by decide +kernel
theorem dX4_carryOn_122 : decode cX4_carryOn 122 = .ok (.return_, 1) := by decide +kernel
theorem dX4_countFamilies_0 : decode cX4_countFamilies 0 = .ok (.aload_n 0, 1) := by decide +kernel
theorem dX4_countFamilies_1 : decode cX4_countFamilies 1 = .ok (.getfield 11, 3) := by decide +kernel
theorem dX4_countFamilies_4 : decode cX4_countFamilies 4 = .ok (.iconst 0, 1) := by decide +kernel
theorem dX4_countFamilies_5 : decode cX4_countFamilies 5 = .ok (.iconst 0, 1) := by decide +kernel
theorem dX4_countFamilies_6 : decode cX4_countFamilies 6 = .ok (.iastore, 1) := by decide +kernel
theorem dX4_countFamilies_7 : decode cX4_countFamilies 7 = .ok (.bipush 8, 2) := by decide +kernel
theorem dX4_countFamilies_9 : decode cX4_countFamilies 9 = .ok (.aload_n 0, 1) := by decide +kernel
theorem dX4_countFamilies_10 : decode cX4_countFamilies 10 = .ok (.getfield 56, 3) := by decide +kernel
theorem dX4_countFamilies_13 : decode cX4_countFamilies 13 = .ok (.getfield 101, 3) := by decide +kernel
theorem dX4_countFamilies_16 : decode cX4_countFamilies 16 = .ok (.invokevirtual 66, 3) := by decide +kernel
theorem dX4_countFamilies_19 : decode cX4_countFamilies 19 = .ok (.invokestatic 104, 3) := by decide +kernel
theorem dX4_countFamilies_22 : decode cX4_countFamilies 22 = .ok (.istore_n 1, 1) := by decide +kernel
theorem dX4_countFamilies_23 : decode cX4_countFamilies 23 = .ok (.iconst 0, 1) := by decide +kernel
theorem dX4_countFamilies_24 : decode cX4_countFamilies 24 = .ok (.istore_n 2, 1) := by decide +kernel
theorem dX4_countFamilies_25 : decode cX4_countFamilies 25 = .ok (.iload_n 2, 1) := by decide +kernel
theorem dX4_countFamilies_26 : decode cX4_countFamilies 26 = .ok (.iload_n 1, 1) := by decide +kernel
theorem dX4_countFamilies_27 : decode cX4_countFamilies 27 = .ok (.if_icmp .ge 59, 3) := by decide +kernel
theorem dX4_countFamilies_30 : decode cX4_countFamilies 30 = .ok (.iconst 1, 1) := by decide +kernel
theorem dX4_countFamilies_31 : decode cX4_countFamilies 31 = .ok (.iload_n 2, 1) := by decide +kernel
theorem dX4_countFamilies_32 : decode cX4_countFamilies 32 = .ok (.ishl, 1) := by decide +kernel
theorem dX4_countFamilies_33 : decode cX4_countFamilies 33 = .ok (.istore_n 3, 1) := by decide +kernel
theorem dX4_countFamilies_34 : decode cX4_countFamilies 34 = .ok (.iload_n 3, 1) := by decide +kernel
theorem dX4_countFamilies_35 : decode cX4_countFamilies 35 = .ok (.istore 4, 2) := by decide +kernel
theorem dX4_countFamilies_37 : decode cX4_countFamilies 37 = .ok (.iload 4, 2) := by decide +kernel
theorem dX4_countFamilies_39 : decode cX4_countFamilies 39 = .ok (.iconst 2, 1) := by decide +kernel
theorem dX4_countFamilies_40 : decode cX4_countFamilies 40 = .ok (.iload_n 3, 1) := by decide +kernel
theorem dX4_countFamilies_41 : decode cX4_countFamilies 41 = .ok (.imul, 1) := by decide +kernel
theorem dX4_countFamilies_42 : decode cX4_countFamilies 42 = .ok (.if_icmp .ge 38, 3) := by decide +kernel
theorem dX4_countFamilies_45 : decode cX4_countFamilies 45 = .ok (.aload_n 0, 1) := by decide +kernel
theorem dX4_countFamilies_46 : decode cX4_countFamilies 46 = .ok (.getfield 11, 3) := by decide +kernel
theorem dX4_countFamilies_49 : decode cX4_countFamilies 49 = .ok (.iload 4, 2) := by decide +kernel
theorem dX4_countFamilies_51 : decode cX4_countFamilies 51 = .ok (.aload_n 0, 1) := by decide +kernel
theorem dX4_countFamilies_52 : decode cX4_countFamilies 52 = .ok (.getfield 11, 3) := by decide +kernel
theorem dX4_countFamilies_55 : decode cX4_countFamilies 55 = .ok (.iload 4, 2) := by decide +kernel
theorem dX4_countFamilies_57 : decode cX4_countFamilies 57 = .ok (.iload_n 3, 1) := by decide +kernel
theorem dX4_countFamilies_58 : decode cX4_countFamilies 58 = .ok (.isub, 1) := by decide +kernel
theorem dX4_countFamilies_59 : decode cX4_countFamilies 59 = .ok (.iaload, 1) := by decide +kernel
theorem dX4_countFamilies_60 : decode cX4_countFamilies 60 = .ok (.aload_n 0, 1) := by decide +kernel
theorem dX4_countFamilies_61 : decode cX4_countFamilies 61 = .ok (.getfield 56, 3) := by decide +kernel
theorem dX4_countFamilies_64 : decode cX4_countFamilies 64 = .ok (.getfield 101, 3) := by decide +kernel
theorem dX4_countFamilies_67 : decode cX4_countFamilies 67 = .ok (.iload_n 2, 1) := by decide +kernel
theorem dX4_countFamilies_68 : decode cX4_countFamilies 68 = .ok (.iconst 0, 1) := by decide +kernel
theorem dX4_countFamilies_69 : decode cX4_countFamilies 69 = .ok (.invokevirtual 72, 3) := by decide +kernel
theorem dX4_countFamilies_72 : decode cX4_countFamilies 72 = .ok (.iadd, 1) := by decide +kernel
theorem dX4_countFamilies_73 : decode cX4_countFamilies 73 = .ok (.iastore, 1) := by decide +kernel
theorem dX4_countFamilies_74 : decode cX4_countFamilies 74 = .ok (.iinc 4 1, 3) := by decide +kernel
theorem dX4_countFamilies_77 : decode cX4_countFamilies 77 = .ok (.goto (-40), 3) := by decide +kernel
theorem dX4_countFamilies_80 : decode cX4_countFamilies 80 = .ok (.iinc 2 1, 3) := by decide +kernel
theorem dX4_countFamilies_83 : decode cX4_countFamilies 83 = .ok (.goto (-58), 3) := by decide +kernel
theorem dX4_countFamilies_86 : decode cX4_countFamilies 86 = .ok (.iconst 1, 1) := by decide +kernel
theorem dX4_countFamilies_87 : decode cX4_countFamilies 87 = .ok (.iload_n 1, 1) := by decide +kernel
theorem dX4_countFamilies_88 : decode cX4_countFamilies 88 = .ok (.ishl, 1) := by decide +kernel
theorem dX4_countFamilies_89 : decode cX4_countFamilies 89 = .ok (.iconst 1, 1) := by decide +kernel
theorem dX4_countFamilies_90 : decode cX4_countFamilies 90 = .ok (.isub, 1) := by decide +kernel
theorem dX4_countFamilies_91 : decode cX4_countFamilies 91 = .ok (.ireturn, 1) := by decide +kernel
theorem dX4_fewestShelters_0 : decode cX4_fewestShelters 0 = .ok (.aload_n 0, 1) := by decide +kernel
theorem dX4_fewestShelters_1 : decode cX4_fewestShelters 1 = .ok (.invokevirtual 107, 3) := by decide +kernel
theorem dX4_fewestShelters_4 : decode cX4_fewestShelters 4 = .ok (.istore_n 2, 1) := by decide +kernel
theorem dX4_fewestShelters_5 : decode cX4_fewestShelters 5 = .ok (.aload_n 0, 1) := by decide +kernel
theorem dX4_fewestShelters_6 : decode cX4_fewestShelters 6 = .ok (.getfield 15, 3) := by decide +kernel
theorem dX4_fewestShelters_9 : decode cX4_fewestShelters 9 = .ok (.iconst 0, 1) := by decide +kernel
theorem dX4_fewestShelters_10 : decode cX4_fewestShelters 10 = .ok (.iconst 0, 1) := by decide +kernel
theorem dX4_fewestShelters_11 : decode cX4_fewestShelters 11 = .ok (.iastore, 1) := by decide +kernel
theorem dX4_fewestShelters_12 : decode cX4_fewestShelters 12 = .ok (.iconst 1, 1) := by decide +kernel
theorem dX4_fewestShelters_13 : decode cX4_fewestShelters 13 = .ok (.istore_n 3, 1) := by decide +kernel
theorem dX4_fewestShelters_14 : decode cX4_fewestShelters 14 = .ok (.iload_n 3, 1) := by decide +kernel
theorem dX4_fewestShelters_15 : decode cX4_fewestShelters 15 = .ok (.iload_n 2, 1) := by decide +kernel
theorem dX4_fewestShelters_16 : decode cX4_fewestShelters 16 = .ok (.if_icmp .gt 91, 3) := by decide +kernel
theorem dX4_fewestShelters_19 : decode cX4_fewestShelters 19 = .ok (.iconst (-1), 1) := by decide +kernel
theorem dX4_fewestShelters_20 : decode cX4_fewestShelters 20 = .ok (.istore 4, 2) := by decide +kernel
theorem dX4_fewestShelters_22 : decode cX4_fewestShelters 22 = .ok (.iload_n 3, 1) := by decide +kernel
theorem dX4_fewestShelters_23 : decode cX4_fewestShelters 23 = .ok (.istore 5, 2) := by decide +kernel
theorem dX4_fewestShelters_25 : decode cX4_fewestShelters 25 = .ok (.iload 5, 2) := by decide +kernel
theorem dX4_fewestShelters_27 : decode cX4_fewestShelters 27 = .ok (.ifCond .le 66, 3) := by decide +kernel
theorem dX4_fewestShelters_30 : decode cX4_fewestShelters 30 = .ok (.aload_n 0, 1) := by decide +kernel
theorem dX4_fewestShelters_31 : decode cX4_fewestShelters 31 = .ok (.getfield 15, 3) := by decide +kernel
theorem dX4_fewestShelters_34 : decode cX4_fewestShelters 34 = .ok (.iload_n 3, 1) := by decide +kernel
theorem dX4_fewestShelters_35 : decode cX4_fewestShelters 35 = .ok (.iload 5, 2) := by decide +kernel
theorem dX4_fewestShelters_37 : decode cX4_fewestShelters 37 = .ok (.isub, 1) := by decide +kernel
theorem dX4_fewestShelters_38 : decode cX4_fewestShelters 38 = .ok (.iaload, 1) := by decide +kernel
theorem dX4_fewestShelters_39 : decode cX4_fewestShelters 39 = .ok (.istore 6, 2) := by decide +kernel
theorem dX4_fewestShelters_41 : decode cX4_fewestShelters 41 = .ok (.aload_n 0, 1) := by decide +kernel
theorem dX4_fewestShelters_42 : decode cX4_fewestShelters 42 = .ok (.getfield 11, 3) := by decide +kernel
theorem dX4_fewestShelters_45 : decode cX4_fewestShelters 45 = .ok (.iload 5, 2) := by decide +kernel
theorem dX4_fewestShelters_47 : decode cX4_fewestShelters 47 = .ok (.iaload, 1) := by decide +kernel
theorem dX4_fewestShelters_48 : decode cX4_fewestShelters 48 = .ok (.iload_n 1, 1) := by decide +kernel
theorem dX4_fewestShelters_49 : decode cX4_fewestShelters 49 = .ok (.if_icmp .gt 33, 3) := by decide +kernel
theorem dX4_fewestShelters_52 : decode cX4_fewestShelters 52 = .ok (.iload 6, 2) := by decide +kernel
theorem dX4_fewestShelters_54 : decode cX4_fewestShelters 54 = .ok (.iconst (-1), 1) := by decide +kernel
theorem dX4_fewestShelters_55 : decode cX4_fewestShelters 55 = .ok (.if_icmp .ne 6, 3) := by decide +kernel
theorem dX4_fewestShelters_58 : decode cX4_fewestShelters 58 = .ok (.goto 24, 3) := by decide +kernel
theorem dX4_fewestShelters_61 : decode cX4_fewestShelters 61 = .ok (.iload 4, 2) := by decide +kernel
theorem dX4_fewestShelters_63 : decode cX4_fewestShelters 63 = .ok (.iconst (-1), 1) := by decide +kernel
theorem dX4_fewestShelters_64 : decode cX4_fewestShelters 64 = .ok (.if_icmp .eq 12, 3) := by decide +kernel
theorem dX4_fewestShelters_67 : decode cX4_fewestShelters 67 = .ok (.iload 6, 2) := by decide +kernel
theorem dX4_fewestShelters_69 : decode cX4_fewestShelters 69 = .ok (.iconst 1, 1) := by decide +kernel
theorem dX4_fewestShelters_70 : decode cX4_fewestShelters 70 = .ok (.iadd, 1) := by decide +kernel
theorem dX4_fewestShelters_71 : decode cX4_fewestShelters 71 = .ok (.iload 4, 2) := by decide +kernel
theorem dX4_fewestShelters_73 : decode cX4_fewestShelters 73 = .ok (.if_icmp .ge 9, 3) := by decide +kernel
theorem dX4_fewestShelters_76 : decode cX4_fewestShelters 76 = .ok (.iload 6, 2) := by decide +kernel
theorem dX4_fewestShelters_78 : decode cX4_fewestShelters 78 = .ok (.iconst 1, 1) := by decide +kernel
theorem dX4_fewestShelters_79 : decode cX4_fewestShelters 79 = .ok (.iadd, 1) := by decide +kernel
theorem dX4_fewestShelters_80 : decode cX4_fewestShelters 80 = .ok (.istore 4, 2) := by decide +kernel
theorem dX4_fewestShelters_82 : decode cX4_fewestShelters 82 = .ok (.iload 5, 2) := by decide +kernel
theorem dX4_fewestShelters_84 : decode cX4_fewestShelters 84 = .ok (.iconst 1, 1) := by decide +kernel
theorem dX4_fewestShelters_85 : decode cX4_fewestShelters 85 = .ok (.isub, 1) := by decide +kernel
theorem dX4_fewestShelters_86 : decode cX4_fewestShelters 86 = .ok (.iload_n 3, 1) := by decide +kernel
theorem dX4_fewestShelters_87 : decode cX4_fewestShelters 87 = .ok (.iand, 1) := by decide +kernel
theorem dX4_fewestShelters_88 : decode cX4_fewestShelters 88 = .ok (.istore 5, 2) := by decide +kernel
theorem dX4_fewestShelters_90 : decode cX4_fewestShelters 90 = .ok (.goto (-65), 3) := by decide +kernel
theorem dX4_fewestShelters_93 : decode cX4_fewestShelters 93 = .ok (.aload_n 0, 1) := by decide +kernel
theorem dX4_fewestShelters_94 : decode cX4_fewestShelters 94 = .ok (.getfield 15, 3) := by decide +kernel
theorem dX4_fewestShelters_97 : decode cX4_fewestShelters 97 = .ok (.iload_n 3, 1) := by decide +kernel
theorem dX4_fewestShelters_98 : decode cX4_fewestShelters 98 = .ok (.iload 4, 2) := by decide +kernel
theorem dX4_fewestShelters_100 : decode cX4_fewestShelters 100 = .ok (.iastore, 1) := by decide +kernel
theorem dX4_fewestShelters_101 : decode cX4_fewestShelters 101 = .ok (.iinc 3 1, 3) := by decide +kernel
theorem dX4_fewestShelters_104 : decode cX4_fewestShelters 104 = .ok (.goto (-90), 3) := by decide +kernel
theorem dX4_fewestShelters_107 : decode cX4_fewestShelters 107 = .ok (.aload_n 0, 1) := by decide +kernel
theorem dX4_fewestShelters_108 : decode cX4_fewestShelters 108 = .ok (.getfield 15, 3) := by decide +kernel
theorem dX4_fewestShelters_111 : decode cX4_fewestShelters 111 = .ok (.iload_n 2, 1) := by decide +kernel
theorem dX4_fewestShelters_112 : decode cX4_fewestShelters 112 = .ok (.iaload, 1) := by decide +kernel
theorem dX4_fewestShelters_113 : decode cX4_fewestShelters 113 = .ok (.ireturn, 1) := by decide +kernel
theorem dX4_waysToShelter_0 : decode cX4_waysToShelter 0 = .ok (.aload_n 0, 1) := by decide +kernel
theorem dX4_waysToShelter_1 : decode cX4_waysToShelter 1 = .ok (.invokevirtual 107, 3) := by decide +kernel
theorem dX4_waysToShelter_4 : decode cX4_waysToShelter 4 = .ok (.istore_n 3, 1) := by decide +kernel
theorem dX4_waysToShelter_5 : decode cX4_waysToShelter 5 = .ok (.aload_n 0, 1) := by decide +kernel
theorem dX4_waysToShelter_6 : decode cX4_waysToShelter 6 = .ok (.getfield 15, 3) := by decide +kernel
theorem dX4_waysToShelter_9 : decode cX4_waysToShelter 9 = .ok (.iconst 0, 1) := by decide +kernel
theorem dX4_waysToShelter_10 : decode cX4_waysToShelter 10 = .ok (.invokestatic 84, 3) := by decide +kernel
theorem dX4_waysToShelter_13 : decode cX4_waysToShelter 13 = .ok (.aload_n 0, 1) := by decide +kernel
theorem dX4_waysToShelter_14 : decode cX4_waysToShelter 14 = .ok (.getfield 15, 3) := by decide +kernel
theorem dX4_waysToShelter_17 : decode cX4_waysToShelter 17 = .ok (.iconst 0, 1) := by decide +kernel
theorem dX4_waysToShelter_18 : decode cX4_waysToShelter 18 = .ok (.iconst 1, 1) := by decide +kernel
theorem dX4_waysToShelter_19 : decode cX4_waysToShelter 19 = .ok (.iastore, 1) := by decide +kernel
theorem dX4_waysToShelter_20 : decode cX4_waysToShelter 20 = .ok (.iconst 0, 1) := by decide +kernel
theorem dX4_waysToShelter_21 : decode cX4_waysToShelter 21 = .ok (.istore 4, 2) := by decide +kernel
theorem dX4_waysToShelter_23 : decode cX4_waysToShelter 23 = .ok (.iload 4, 2) := by decide +kernel
theorem dX4_waysToShelter_25 : decode cX4_waysToShelter 25 = .ok (.iload_n 2, 1) := by decide +kernel
theorem dX4_waysToShelter_26 : decode cX4_waysToShelter 26 = .ok (.if_icmp .ge 37, 3) := by decide +kernel
theorem dX4_waysToShelter_29 : decode cX4_waysToShelter 29 = .ok (.iload_n 3, 1) := by decide +kernel
theorem dX4_waysToShelter_30 : decode cX4_waysToShelter 30 = .ok (.istore 5, 2) := by decide +kernel
theorem dX4_waysToShelter_32 : decode cX4_waysToShelter 32 = .ok (.iload 5, 2) := by decide +kernel
theorem dX4_waysToShelter_34 : decode cX4_waysToShelter 34 = .ok (.ifCond .lt 23, 3) := by decide +kernel
theorem dX4_waysToShelter_37 : decode cX4_waysToShelter 37 = .ok (.aload_n 0, 1) := by decide +kernel
theorem dX4_waysToShelter_38 : decode cX4_waysToShelter 38 = .ok (.getfield 15, 3) := by decide +kernel
theorem dX4_waysToShelter_41 : decode cX4_waysToShelter 41 = .ok (.iload 5, 2) := by decide +kernel
theorem dX4_waysToShelter_43 : decode cX4_waysToShelter 43 = .ok (.aload_n 0, 1) := by decide +kernel
theorem dX4_waysToShelter_44 : decode cX4_waysToShelter 44 = .ok (.iload 5, 2) := by decide +kernel
theorem dX4_waysToShelter_46 : decode cX4_waysToShelter 46 = .ok (.iload_n 1, 1) := by decide +kernel
theorem dX4_waysToShelter_47 : decode cX4_waysToShelter 47 = .ok (.invokevirtual 110, 3) := by decide +kernel
theorem dX4_waysToShelter_50 : decode cX4_waysToShelter 50 = .ok (.iastore, 1) := by decide +kernel
theorem dX4_waysToShelter_51 : decode cX4_waysToShelter 51 = .ok (.iinc 5 (-1), 3) := by decide +kernel
theorem dX4_waysToShelter_54 : decode cX4_waysToShelter 54 = .ok (.goto (-22), 3) := by decide +kernel
theorem dX4_waysToShelter_57 : decode cX4_waysToShelter 57 = .ok (.iinc 4 1, 3) := by decide +kernel
theorem dX4_waysToShelter_60 : decode cX4_waysToShelter 60 = .ok (.goto (-37), 3) := by decide +kernel
theorem dX4_waysToShelter_63 : decode cX4_waysToShelter 63 = .ok (.aload_n 0, 1) := by decide +kernel
theorem dX4_waysToShelter_64 : decode cX4_waysToShelter 64 = .ok (.getfield 15, 3) := by decide +kernel
theorem dX4_waysToShelter_67 : decode cX4_waysToShelter 67 = .ok (.iload_n 3, 1) := by decide +kernel
theorem dX4_waysToShelter_68 : decode cX4_waysToShelter 68 = .ok (.iaload, 1) := by decide +kernel
theorem dX4_waysToShelter_69 : decode cX4_waysToShelter 69 = .ok (.ireturn, 1) := by decide +kernel
theorem dX4_shelterOneMore_0 : decode cX4_shelterOneMore 0 = .ok (.aload_n 0, 1) := by decide +kernel
theorem dX4_shelterOneMore_1 : decode cX4_shelterOneMore 1 = .ok (.getfield 15, 3) := by decide +kernel
theorem dX4_shelterOneMore_4 : decode cX4_shelterOneMore 4 = .ok (.iload_n 1, 1) := by decide +kernel
theorem dX4_shelterOneMore_5 : decode cX4_shelterOneMore 5 = .ok (.iaload, 1) := by decide +kernel
theorem dX4_shelterOneMore_6 : decode cX4_shelterOneMore 6 = .ok (.i2l, 1) := by decide +kernel
theorem dX4_shelterOneMore_7 : decode cX4_shelterOneMore 7 = .ok (.lstore_n 3, 1) := by decide +kernel
theorem dX4_shelterOneMore_8 : decode cX4_shelterOneMore 8 = .ok (.iload_n 1, 1) := by decide +kernel
theorem dX4_shelterOneMore_9 : decode cX4_shelterOneMore 9 = .ok (.istore 5, 2) := by decide +kernel
theorem dX4_shelterOneMore_11 : decode cX4_shelterOneMore 11 = .ok (.iload 5, 2) := by decide +kernel
theorem dX4_shelterOneMore_13 : decode cX4_shelterOneMore 13 = .ok (.ifCond .le 38, 3) := by decide +kernel
theorem dX4_shelterOneMore_16 : decode cX4_shelterOneMore 16 = .ok (.aload_n 0, 1) := by decide +kernel
theorem dX4_shelterOneMore_17 : decode cX4_shelterOneMore 17 = .ok (.getfield 11, 3) := by decide +kernel
theorem dX4_shelterOneMore_20 : decode cX4_shelterOneMore 20 = .ok (.iload 5, 2) := by decide +kernel
theorem dX4_shelterOneMore_22 : decode cX4_shelterOneMore 22 = .ok (.iaload, 1) := by decide +kernel
theorem dX4_shelterOneMore_23 : decode cX4_shelterOneMore 23 = .ok (.iload_n 2, 1) := by decide +kernel
theorem dX4_shelterOneMore_24 : decode cX4_shelterOneMore 24 = .ok (.if_icmp .gt 16, 3) := by decide +kernel
theorem dX4_shelterOneMore_27 : decode cX4_shelterOneMore 27 = .ok (.lload_n 3, 1) := by decide +kernel
theorem dX4_shelterOneMore_28 : decode cX4_shelterOneMore 28 = .ok (.aload_n 0, 1) := by decide +kernel
theorem dX4_shelterOneMore_29 : decode cX4_shelterOneMore 29 = .ok (.getfield 15, 3) := by decide +kernel
theorem dX4_shelterOneMore_32 : decode cX4_shelterOneMore 32 = .ok (.iload_n 1, 1) := by decide +kernel
theorem dX4_shelterOneMore_33 : decode cX4_shelterOneMore 33 = .ok (.iload 5, 2) := by decide +kernel
theorem dX4_shelterOneMore_35 : decode cX4_shelterOneMore 35 = .ok (.isub, 1) := by decide +kernel
theorem dX4_shelterOneMore_36 : decode cX4_shelterOneMore 36 = .ok (.iaload, 1) := by decide +kernel
theorem dX4_shelterOneMore_37 : decode cX4_shelterOneMore 37 = .ok (.i2l, 1) := by decide +kernel
theorem dX4_shelterOneMore_38 : decode cX4_shelterOneMore 38 = .ok (.ladd, 1) := by decide +kernel
theorem dX4_shelterOneMore_39 : decode cX4_shelterOneMore 39 = .ok (.lstore_n 3, 1) := by decide +kernel
theorem dX4_shelterOneMore_40 : decode cX4_shelterOneMore 40 = .ok (.iload 5, 2) := by decide +kernel
theorem dX4_shelterOneMore_42 : decode cX4_shelterOneMore 42 = .ok (.iconst 1, 1) := by decide +kernel
theorem dX4_shelterOneMore_43 : decode cX4_shelterOneMore 43 = .ok (.isub, 1) := by decide +kernel
theorem dX4_shelterOneMore_44 : decode cX4_shelterOneMore 44 = .ok (.iload_n 1, 1) := by decide +kernel
theorem dX4_shelterOneMore_45 : decode cX4_shelterOneMore 45 = .ok (.iand, 1) := by decide +kernel
theorem dX4_shelterOneMore_46 : decode cX4_shelterOneMore 46 = .ok (.istore 5, 2) := by decide +kernel
theorem dX4_shelterOneMore_48 : decode cX4_shelterOneMore 48 = .ok (.goto (-37), 3) := by decide +kernel
theorem dX4_shelterOneMore_51 : decode cX4_shelterOneMore 51 = .ok (.lload_n 3, 1) := by decide +kernel
theorem dX4_shelterOneMore_52 : decode cX4_shelterOneMore 52 = .ok (.ldc2_w 113, 3) := by decide +kernel
theorem dX4_shelterOneMore_55 : decode cX4_shelterOneMore 55 = .ok (.lrem, 1) := by decide +kernel
theorem dX4_shelterOneMore_56 : decode cX4_shelterOneMore 56 = .ok (.l2i, 1) := by decide +kernel
theorem dX4_shelterOneMore_57 : decode cX4_shelterOneMore 57 = .ok (.ireturn, 1) := by decide +kernel
theorem dX4_fewestShovels_0 : decode cX4_fewestShovels 0 = .ok (.aload_n 0, 1) := by decide +kernel
theorem dX4_fewestShovels_1 : decode cX4_fewestShovels 1 = .ok (.getfield 56, 3) := by decide +kernel
theorem dX4_fewestShovels_4 : decode cX4_fewestShovels 4 = .ok (.getfield 115, 3) := by decide +kernel
theorem dX4_fewestShovels_7 : decode cX4_fewestShovels 7 = .ok (.invokevirtual 66, 3) := by decide +kernel
theorem dX4_fewestShovels_10 : decode cX4_fewestShovels 10 = .ok (.istore_n 1, 1) := by decide +kernel
theorem dX4_fewestShovels_11 : decode cX4_fewestShovels 11 = .ok (.iload_n 1, 1) := by decide +kernel
theorem dX4_fewestShovels_12 : decode cX4_fewestShovels 12 = .ok (.ifCond .ne 5, 3) := by decide +kernel
theorem dX4_fewestShovels_15 : decode cX4_fewestShovels 15 = .ok (.iconst 0, 1) := by decide +kernel
theorem dX4_fewestShovels_16 : decode cX4_fewestShovels 16 = .ok (.ireturn, 1) := by decide +kernel
theorem dX4_fewestShovels_17 : decode cX4_fewestShovels 17 = .ok (.iconst 0, 1) := by decide +kernel
theorem dX4_fewestShovels_18 : decode cX4_fewestShovels 18 = .ok (.istore_n 2, 1) := by decide +kernel
theorem dX4_fewestShovels_19 : decode cX4_fewestShovels 19 = .ok (.iconst 0, 1) := by decide +kernel
theorem dX4_fewestShovels_20 : decode cX4_fewestShovels 20 = .ok (.istore_n 3, 1) := by decide +kernel
theorem dX4_fewestShovels_21 : decode cX4_fewestShovels 21 = .ok (.iload_n 3, 1) := by decide +kernel
theorem dX4_fewestShovels_22 : decode cX4_fewestShovels 22 = .ok (.iload_n 1, 1) := by decide +kernel
theorem dX4_fewestShovels_23 : decode cX4_fewestShovels 23 = .ok (.if_icmp .ge 24, 3) := by decide +kernel
theorem dX4_fewestShovels_26 : decode cX4_fewestShovels 26 = .ok (.iload_n 2, 1) := by decide +kernel
theorem dX4_fewestShovels_27 : decode cX4_fewestShovels 27 = .ok (.aload_n 0, 1) := by decide +kernel
theorem dX4_fewestShovels_28 : decode cX4_fewestShovels 28 = .ok (.getfield 56, 3) := by decide +kernel
theorem dX4_fewestShovels_31 : decode cX4_fewestShovels 31 = .ok (.getfield 115, 3) := by decide +kernel
theorem dX4_fewestShovels_34 : decode cX4_fewestShovels 34 = .ok (.iload_n 3, 1) := by decide +kernel
theorem dX4_fewestShovels_35 : decode cX4_fewestShovels 35 = .ok (.iconst 0, 1) := by decide +kernel
theorem dX4_fewestShovels_36 : decode cX4_fewestShovels 36 = .ok (.invokevirtual 72, 3) := by decide +kernel
theorem dX4_fewestShovels_39 : decode cX4_fewestShovels 39 = .ok (.iadd, 1) := by decide +kernel
theorem dX4_fewestShovels_40 : decode cX4_fewestShovels 40 = .ok (.istore_n 2, 1) := by decide +kernel
theorem dX4_fewestShovels_41 : decode cX4_fewestShovels 41 = .ok (.iinc 3 1, 3) := by decide +kernel
theorem dX4_fewestShovels_44 : decode cX4_fewestShovels 44 = .ok (.goto (-23), 3) := by decide +kernel
theorem dX4_fewestShovels_47 : decode cX4_fewestShovels 47 = .ok (.iload_n 2, 1) := by decide +kernel
theorem dX4_fewestShovels_48 : decode cX4_fewestShovels 48 = .ok (.iload_n 1, 1) := by decide +kernel
theorem dX4_fewestShovels_49 : decode cX4_fewestShovels 49 = .ok (.irem, 1) := by decide +kernel
theorem dX4_fewestShovels_50 : decode cX4_fewestShovels 50 = .ok (.ifCond .eq 5, 3) := by decide +kernel
theorem dX4_fewestShovels_53 : decode cX4_fewestShovels 53 = .ok (.iconst (-1), 1) := by decide +kernel
theorem dX4_fewestShovels_54 : decode cX4_fewestShovels 54 = .ok (.ireturn, 1) := by decide +kernel
theorem dX4_fewestShovels_55 : decode cX4_fewestShovels 55 = .ok (.iconst 0, 1) := by decide +kernel
theorem dX4_fewestShovels_56 : decode cX4_fewestShovels 56 = .ok (.istore_n 3, 1) := by decide +kernel
theorem dX4_fewestShovels_57 : decode cX4_fewestShovels 57 = .ok (.iconst 0, 1) := by decide +kernel
theorem dX4_fewestShovels_58 : decode cX4_fewestShovels 58 = .ok (.istore 4, 2) := by decide +kernel
theorem dX4_fewestShovels_60 : decode cX4_fewestShovels 60 = .ok (.iconst 0, 1) := by decide +kernel
theorem dX4_fewestShovels_61 : decode cX4_fewestShovels 61 = .ok (.istore 5, 2) := by decide +kernel
theorem dX4_fewestShovels_63 : decode cX4_fewestShovels 63 = .ok (.iload 5, 2) := by decide +kernel
theorem dX4_fewestShovels_65 : decode cX4_fewestShovels 65 = .ok (.iload_n 1, 1) := by decide +kernel
theorem dX4_fewestShovels_66 : decode cX4_fewestShovels 66 = .ok (.if_icmp .ge 38, 3) := by decide +kernel
theorem dX4_fewestShovels_69 : decode cX4_fewestShovels 69 = .ok (.iload_n 3, 1) := by decide +kernel
theorem dX4_fewestShovels_70 : decode cX4_fewestShovels 70 = .ok (.aload_n 0, 1) := by decide +kernel
theorem dX4_fewestShovels_71 : decode cX4_fewestShovels 71 = .ok (.getfield 56, 3) := by decide +kernel
theorem dX4_fewestShovels_74 : decode cX4_fewestShovels 74 = .ok (.getfield 115, 3) := by decide +kernel
theorem dX4_fewestShovels_77 : decode cX4_fewestShovels 77 = .ok (.iload 5, 2) := by decide +kernel
theorem dX4_fewestShovels_79 : decode cX4_fewestShovels 79 = .ok (.iconst 0, 1) := by decide +kernel
theorem dX4_fewestShovels_80 : decode cX4_fewestShovels 80 = .ok (.invokevirtual 72, 3) := by decide +kernel
theorem dX4_fewestShovels_83 : decode cX4_fewestShovels 83 = .ok (.iload_n 2, 1) := by decide +kernel
theorem dX4_fewestShovels_84 : decode cX4_fewestShovels 84 = .ok (.iload_n 1, 1) := by decide +kernel
theorem dX4_fewestShovels_85 : decode cX4_fewestShovels 85 = .ok (.idiv, 1) := by decide +kernel
theorem dX4_fewestShovels_86 : decode cX4_fewestShovels 86 = .ok (.isub, 1) := by decide +kernel
theorem dX4_fewestShovels_87 : decode cX4_fewestShovels 87 = .ok (.iadd, 1) := by decide +kernel
theorem dX4_fewestShovels_88 : decode cX4_fewestShovels 88 = .ok (.istore_n 3, 1) := by decide +kernel
theorem dX4_fewestShovels_89 : decode cX4_fewestShovels 89 = .ok (.iload 4, 2) := by decide +kernel
theorem dX4_fewestShovels_91 : decode cX4_fewestShovels 91 = .ok (.iload_n 3, 1) := by decide +kernel
theorem dX4_fewestShovels_92 : decode cX4_fewestShovels 92 = .ok (.invokestatic 118, 3) := by decide +kernel
theorem dX4_fewestShovels_95 : decode cX4_fewestShovels 95 = .ok (.iadd, 1) := by decide +kernel
theorem dX4_fewestShovels_96 : decode cX4_fewestShovels 96 = .ok (.istore 4, 2) := by decide +kernel
theorem dX4_fewestShovels_98 : decode cX4_fewestShovels 98 = .ok (.iinc 5 1, 3) := by decide +kernel
theorem dX4_fewestShovels_101 : decode cX4_fewestShovels 101 = .ok (.goto (-38), 3) := by decide +kernel
theorem dX4_fewestShovels_104 : decode cX4_fewestShovels 104 = .ok (.iload 4, 2) := by decide +kernel
theorem dX4_fewestShovels_106 : decode cX4_fewestShovels 106 = .ok (.ireturn, 1) := by decide +kernel
theorem dX4_ditch_0 : decode cX4_ditch 0 = .ok (.iconst 0, 1) := by decide +kernel
theorem dX4_ditch_1 : decode cX4_ditch 1 = .ok (.istore_n 1, 1) := by decide +kernel
theorem dX4_ditch_2 : decode cX4_ditch 2 = .ok (.iconst 0, 1) := by decide +kernel
theorem dX4_ditch_3 : decode cX4_ditch 3 = .ok (.istore_n 2, 1) := by decide +kernel
theorem dX4_ditch_4 : decode cX4_ditch 4 = .ok (.iload_n 2, 1) := by decide +kernel
theorem dX4_ditch_5 : decode cX4_ditch 5 = .ok (.aload_n 0, 1) := by decide +kernel
theorem dX4_ditch_6 : decode cX4_ditch 6 = .ok (.getfield 56, 3) := by decide +kernel
theorem dX4_ditch_9 : decode cX4_ditch 9 = .ok (.getfield 115, 3) := by decide +kernel
theorem dX4_ditch_12 : decode cX4_ditch 12 = .ok (.invokevirtual 66, 3) := by decide +kernel
theorem dX4_ditch_15 : decode cX4_ditch 15 = .ok (.if_icmp .ge 113, 3) := by decide +kernel
theorem dX4_ditch_18 : decode cX4_ditch 18 = .ok (.iconst 0, 1) := by decide +kernel
theorem dX4_ditch_19 : decode cX4_ditch 19 = .ok (.istore_n 3, 1) := by decide +kernel
theorem dX4_ditch_20 : decode cX4_ditch 20 = .ok (.iconst 0, 1) := by decide +kernel
theorem dX4_ditch_21 : decode cX4_ditch 21 = .ok (.istore 4, 2) := by decide +kernel
theorem dX4_ditch_23 : decode cX4_ditch 23 = .ok (.iconst 0, 1) := by decide +kernel
theorem dX4_ditch_24 : decode cX4_ditch 24 = .ok (.istore 5, 2) := by decide +kernel
theorem dX4_ditch_26 : decode cX4_ditch 26 = .ok (.iload 5, 2) := by decide +kernel
theorem dX4_ditch_28 : decode cX4_ditch 28 = .ok (.iload_n 2, 1) := by decide +kernel
theorem dX4_ditch_29 : decode cX4_ditch 29 = .ok (.if_icmp .gt 27, 3) := by decide +kernel
theorem dX4_ditch_32 : decode cX4_ditch 32 = .ok (.iload_n 3, 1) := by decide +kernel
theorem dX4_ditch_33 : decode cX4_ditch 33 = .ok (.aload_n 0, 1) := by decide +kernel
theorem dX4_ditch_34 : decode cX4_ditch 34 = .ok (.getfield 56, 3) := by decide +kernel
theorem dX4_ditch_37 : decode cX4_ditch 37 = .ok (.getfield 115, 3) := by decide +kernel
theorem dX4_ditch_40 : decode cX4_ditch 40 = .ok (.iload 5, 2) := by decide +kernel
theorem dX4_ditch_42 : decode cX4_ditch 42 = .ok (.iconst 0, 1) := by decide +kernel
theorem dX4_ditch_43 : decode cX4_ditch 43 = .ok (.invokevirtual 72, 3) := by decide +kernel
theorem dX4_ditch_46 : decode cX4_ditch 46 = .ok (.invokestatic 79, 3) := by decide +kernel
theorem dX4_ditch_49 : decode cX4_ditch 49 = .ok (.istore_n 3, 1) := by decide +kernel
theorem dX4_ditch_50 : decode cX4_ditch 50 = .ok (.iinc 5 1, 3) := by decide +kernel
theorem dX4_ditch_53 : decode cX4_ditch 53 = .ok (.goto (-27), 3) := by decide +kernel
theorem dX4_ditch_56 : decode cX4_ditch 56 = .ok (.iload_n 2, 1) := by decide +kernel
theorem dX4_ditch_57 : decode cX4_ditch 57 = .ok (.istore 5, 2) := by decide +kernel
theorem dX4_ditch_59 : decode cX4_ditch 59 = .ok (.iload 5, 2) := by decide +kernel
theorem dX4_ditch_61 : decode cX4_ditch 61 = .ok (.aload_n 0, 1) := by decide +kernel
theorem dX4_ditch_62 : decode cX4_ditch 62 = .ok (.getfield 56, 3) := by decide +kernel
theorem dX4_ditch_65 : decode cX4_ditch 65 = .ok (.getfield 115, 3) := by decide +kernel
theorem dX4_ditch_68 : decode cX4_ditch 68 = .ok (.invokevirtual 66, 3) := by decide +kernel
theorem dX4_ditch_71 : decode cX4_ditch 71 = .ok (.if_icmp .ge 29, 3) := by decide +kernel
theorem dX4_ditch_74 : decode cX4_ditch 74 = .ok (.iload 4, 2) := by decide +kernel
theorem dX4_ditch_76 : decode cX4_ditch 76 = .ok (.aload_n 0, 1) := by decide +kernel
theorem dX4_ditch_77 : decode cX4_ditch 77 = .ok (.getfield 56, 3) := by decide +kernel
theorem dX4_ditch_80 : decode cX4_ditch 80 = .ok (.getfield 115, 3) := by decide +kernel
theorem dX4_ditch_83 : decode cX4_ditch 83 = .ok (.iload 5, 2) := by decide +kernel
theorem dX4_ditch_85 : decode cX4_ditch 85 = .ok (.iconst 0, 1) := by decide +kernel
theorem dX4_ditch_86 : decode cX4_ditch 86 = .ok (.invokevirtual 72, 3) := by decide +kernel
theorem dX4_ditch_89 : decode cX4_ditch 89 = .ok (.invokestatic 79, 3) := by decide +kernel
theorem dX4_ditch_92 : decode cX4_ditch 92 = .ok (.istore 4, 2) := by decide +kernel
theorem dX4_ditch_94 : decode cX4_ditch 94 = .ok (.iinc 5 1, 3) := by decide +kernel
theorem dX4_ditch_97 : decode cX4_ditch 97 = .ok (.goto (-38), 3) := by decide +kernel
theorem dX4_ditch_100 : decode cX4_ditch 100 = .ok (.iload_n 1, 1) := by decide +kernel
theorem dX4_ditch_101 : decode cX4_ditch 101 = .ok (.iload_n 3, 1) := by decide +kernel
theorem dX4_ditch_102 : decode cX4_ditch 102 = .ok (.iload 4, 2) := by decide +kernel
theorem dX4_ditch_104 : decode cX4_ditch 104 = .ok (.invokestatic 104, 3) := by decide +kernel
theorem dX4_ditch_107 : decode cX4_ditch 107 = .ok (.aload_n 0, 1) := by decide +kernel
theorem dX4_ditch_108 : decode cX4_ditch 108 = .ok (.getfield 56, 3) := by decide +kernel
theorem dX4_ditch_111 : decode cX4_ditch 111 = .ok (.getfield 115, 3) := by decide +kernel
theorem dX4_ditch_114 : decode cX4_ditch 114 = .ok (.iload_n 2, 1) := by decide +kernel
theorem dX4_ditch_115 : decode cX4_ditch 115 = .ok (.iconst 0, 1) := by decide +kernel
theorem dX4_ditch_116 : decode cX4_ditch 116 = .ok (.invokevirtual 72, 3) := by decide +kernel
theorem dX4_ditch_119 : decode cX4_ditch 119 = .ok (.isub, 1) := by decide +kernel
theorem dX4_ditch_120 : decode cX4_ditch 120 = .ok (.iadd, 1) := by decide +kernel
theorem dX4_ditch_121 : decode cX4_ditch 121 = .ok (.istore_n 1, 1) := by decide +kernel
theorem dX4_ditch_122 : decode cX4_ditch 122 = .ok (.iinc 2 1, 3) := by decide +kernel
theorem dX4_ditch_125 : decode cX4_ditch 125 = .ok (.goto (-121), 3) := by decide +kernel
theorem dX4_ditch_128 : decode cX4_ditch 128 = .ok (.iload_n 1, 1) := by decide +kernel
theorem dX4_ditch_129 : decode cX4_ditch 129 = .ok (.ireturn, 1) := by decide +kernel
theorem dX4_deepest_0 : decode cX4_deepest 0 = .ok (.iconst 0, 1) := by decide +kernel
theorem dX4_deepest_1 : decode cX4_deepest 1 = .ok (.istore_n 1, 1) := by decide +kernel
theorem dX4_deepest_2 : decode cX4_deepest 2 = .ok (.iconst 0, 1) := by decide +kernel
theorem dX4_deepest_3 : decode cX4_deepest 3 = .ok (.istore_n 2, 1) := by decide +kernel
theorem dX4_deepest_4 : decode cX4_deepest 4 = .ok (.iconst 0, 1) := by decide +kernel
theorem dX4_deepest_5 : decode cX4_deepest 5 = .ok (.istore_n 3, 1) := by decide +kernel
theorem dX4_deepest_6 : decode cX4_deepest 6 = .ok (.iload_n 3, 1) := by decide +kernel
theorem dX4_deepest_7 : decode cX4_deepest 7 = .ok (.aload_n 0, 1) := by decide +kernel
theorem dX4_deepest_8 : decode cX4_deepest 8 = .ok (.getfield 56, 3) := by decide +kernel
theorem dX4_deepest_11 : decode cX4_deepest 11 = .ok (.getfield 122, 3) := by decide +kernel
theorem dX4_deepest_14 : decode cX4_deepest 14 = .ok (.invokevirtual 66, 3) := by decide +kernel
theorem dX4_deepest_17 : decode cX4_deepest 17 = .ok (.if_icmp .ge 51, 3) := by decide +kernel
theorem dX4_deepest_20 : decode cX4_deepest 20 = .ok (.aload_n 0, 1) := by decide +kernel
theorem dX4_deepest_21 : decode cX4_deepest 21 = .ok (.getfield 56, 3) := by decide +kernel
theorem dX4_deepest_24 : decode cX4_deepest 24 = .ok (.getfield 122, 3) := by decide +kernel
theorem dX4_deepest_27 : decode cX4_deepest 27 = .ok (.iload_n 3, 1) := by decide +kernel
theorem dX4_deepest_28 : decode cX4_deepest 28 = .ok (.iconst 0, 1) := by decide +kernel
theorem dX4_deepest_29 : decode cX4_deepest 29 = .ok (.invokevirtual 72, 3) := by decide +kernel
theorem dX4_deepest_32 : decode cX4_deepest 32 = .ok (.istore 4, 2) := by decide +kernel
theorem dX4_deepest_34 : decode cX4_deepest 34 = .ok (.iload 4, 2) := by decide +kernel
theorem dX4_deepest_36 : decode cX4_deepest 36 = .ok (.iconst 1, 1) := by decide +kernel
theorem dX4_deepest_37 : decode cX4_deepest 37 = .ok (.if_icmp .ne 6, 3) := by decide +kernel
theorem dX4_deepest_40 : decode cX4_deepest 40 = .ok (.iinc 1 1, 3) := by decide +kernel
theorem dX4_deepest_43 : decode cX4_deepest 43 = .ok (.iload 4, 2) := by decide +kernel
theorem dX4_deepest_45 : decode cX4_deepest 45 = .ok (.iconst 2, 1) := by decide +kernel
theorem dX4_deepest_46 : decode cX4_deepest 46 = .ok (.if_icmp .ne 10, 3) := by decide +kernel
theorem dX4_deepest_49 : decode cX4_deepest 49 = .ok (.iload_n 1, 1) := by decide +kernel
theorem dX4_deepest_50 : decode cX4_deepest 50 = .ok (.ifCond .le 6, 3) := by decide +kernel
theorem dX4_deepest_53 : decode cX4_deepest 53 = .ok (.iinc 1 (-1), 3) := by decide +kernel
theorem dX4_deepest_56 : decode cX4_deepest 56 = .ok (.iload_n 2, 1) := by decide +kernel
theorem dX4_deepest_57 : decode cX4_deepest 57 = .ok (.iload_n 1, 1) := by decide +kernel
theorem dX4_deepest_58 : decode cX4_deepest 58 = .ok (.invokestatic 79, 3) := by decide +kernel
theorem dX4_deepest_61 : decode cX4_deepest 61 = .ok (.istore_n 2, 1) := by decide +kernel
theorem dX4_deepest_62 : decode cX4_deepest 62 = .ok (.iinc 3 1, 3) := by decide +kernel
theorem dX4_deepest_65 : decode cX4_deepest 65 = .ok (.goto (-59), 3) := by decide +kernel
theorem dX4_deepest_68 : decode cX4_deepest 68 = .ok (.iload_n 2, 1) := by decide +kernel
theorem dX4_deepest_69 : decode cX4_deepest 69 = .ok (.ireturn, 1) := by decide +kernel
theorem dX4_firstUnbegun_0 : decode cX4_firstUnbegun 0 = .ok (.iconst 0, 1) := by decide +kernel
theorem dX4_firstUnbegun_1 : decode cX4_firstUnbegun 1 = .ok (.istore_n 1, 1) := by decide +kernel
theorem dX4_firstUnbegun_2 : decode cX4_firstUnbegun 2 = .ok (.iconst 0, 1) := by decide +kernel
theorem dX4_firstUnbegun_3 : decode cX4_firstUnbegun 3 = .ok (.istore_n 2, 1) := by decide +kernel
theorem dX4_firstUnbegun_4 : decode cX4_firstUnbegun 4 = .ok (.iload_n 2, 1) := by decide +kernel
theorem dX4_firstUnbegun_5 : decode cX4_firstUnbegun 5 = .ok (.aload_n 0, 1) := by decide +kernel
theorem dX4_firstUnbegun_6 : decode cX4_firstUnbegun 6 = .ok (.getfield 56, 3) := by decide +kernel
theorem dX4_firstUnbegun_9 : decode cX4_firstUnbegun 9 = .ok (.getfield 122, 3) := by decide +kernel
theorem dX4_firstUnbegun_12 : decode cX4_firstUnbegun 12 = .ok (.invokevirtual 66, 3) := by decide +kernel
theorem dX4_firstUnbegun_15 : decode cX4_firstUnbegun 15 = .ok (.if_icmp .ge 49, 3) := by decide +kernel
theorem dX4_firstUnbegun_18 : decode cX4_firstUnbegun 18 = .ok (.aload_n 0, 1) := by decide +kernel
theorem dX4_firstUnbegun_19 : decode cX4_firstUnbegun 19 = .ok (.getfield 56, 3) := by decide +kernel
theorem dX4_firstUnbegun_22 : decode cX4_firstUnbegun 22 = .ok (.getfield 122, 3) := by decide +kernel
theorem dX4_firstUnbegun_25 : decode cX4_firstUnbegun 25 = .ok (.iload_n 2, 1) := by decide +kernel
theorem dX4_firstUnbegun_26 : decode cX4_firstUnbegun 26 = .ok (.iconst 0, 1) := by decide +kernel
theorem dX4_firstUnbegun_27 : decode cX4_firstUnbegun 27 = .ok (.invokevirtual 72, 3) := by decide +kernel
theorem dX4_firstUnbegun_30 : decode cX4_firstUnbegun 30 = .ok (.istore_n 3, 1) := by decide +kernel
theorem dX4_firstUnbegun_31 : decode cX4_firstUnbegun 31 = .ok (.iload_n 3, 1) := by decide +kernel
theorem dX4_firstUnbegun_32 : decode cX4_firstUnbegun 32 = .ok (.iconst 2, 1) := by decide +kernel
theorem dX4_firstUnbegun_33 : decode cX4_firstUnbegun 33 = .ok (.if_icmp .ne 9, 3) := by decide +kernel
theorem dX4_firstUnbegun_36 : decode cX4_firstUnbegun 36 = .ok (.iload_n 1, 1) := by decide +kernel
theorem dX4_firstUnbegun_37 : decode cX4_firstUnbegun 37 = .ok (.ifCond .ne 5, 3) := by decide +kernel
theorem dX4_firstUnbegun_40 : decode cX4_firstUnbegun 40 = .ok (.iload_n 2, 1) := by decide +kernel
theorem dX4_firstUnbegun_41 : decode cX4_firstUnbegun 41 = .ok (.ireturn, 1) := by decide +kernel
theorem dX4_firstUnbegun_42 : decode cX4_firstUnbegun 42 = .ok (.iload_n 3, 1) := by decide +kernel
theorem dX4_firstUnbegun_43 : decode cX4_firstUnbegun 43 = .ok (.iconst 1, 1) := by decide +kernel
theorem dX4_firstUnbegun_44 : decode cX4_firstUnbegun 44 = .ok (.if_icmp .ne 6, 3) := by decide +kernel
theorem dX4_firstUnbegun_47 : decode cX4_firstUnbegun 47 = .ok (.iinc 1 1, 3) := by decide +kernel
theorem dX4_firstUnbegun_50 : decode cX4_firstUnbegun 50 = .ok (.iload_n 3, 1) := by decide +kernel
theorem dX4_firstUnbegun_51 : decode cX4_firstUnbegun 51 = .ok (.iconst 2, 1) := by decide +kernel
theorem dX4_firstUnbegun_52 : decode cX4_firstUnbegun 52 = .ok (.if_icmp .ne 6, 3) := by decide +kernel
theorem dX4_firstUnbegun_55 : decode cX4_firstUnbegun 55 = .ok (.iinc 1 (-1), 3) := by decide +kernel
theorem dX4_firstUnbegun_58 : decode cX4_firstUnbegun 58 = .ok (.iinc 2 1, 3) := by decide +kernel
theorem dX4_firstUnbegun_61 : decode cX4_firstUnbegun 61 = .ok (.goto (-57), 3) := by decide +kernel
theorem dX4_firstUnbegun_64 : decode cX4_firstUnbegun 64 = .ok (.iconst (-1), 1) := by decide +kernel
theorem dX4_firstUnbegun_65 : decode cX4_firstUnbegun 65 = .ok (.ireturn, 1) := by decide +kernel
theorem dX4_waysOfMatters_0 : decode cX4_waysOfMatters 0 = .ok (.lconst 1, 1) := by decide +kernel
theorem dX4_waysOfMatters_1 : decode cX4_waysOfMatters 1 = .ok (.lstore_n 2, 1) := by decide +kernel
theorem dX4_waysOfMatters_2 : decode cX4_waysOfMatters 2 = .ok (.iconst 0, 1) := by decide +kernel
theorem dX4_waysOfMatters_3 : decode cX4_waysOfMatters 3 = .ok (.istore 4, 2) := by decide +kernel
theorem dX4_waysOfMatters_5 : decode cX4_waysOfMatters 5 = .ok (.iload 4, 2) := by decide +kernel
theorem dX4_waysOfMatters_7 : decode cX4_waysOfMatters 7 = .ok (.iload_n 1, 1) := by decide +kernel
theorem dX4_waysOfMatters_8 : decode cX4_waysOfMatters 8 = .ok (.if_icmp .ge 29, 3) := by decide +kernel
theorem dX4_waysOfMatters_11 : decode cX4_waysOfMatters 11 = .ok (.lload_n 2, 1) := by decide +kernel
theorem dX4_waysOfMatters_12 : decode cX4_waysOfMatters 12 = .ok (.ldc2_w 125, 3) := by decide +kernel
theorem dX4_waysOfMatters_15 : decode cX4_waysOfMatters 15 = .ok (.lmul, 1) := by decide +kernel
theorem dX4_waysOfMatters_16 : decode cX4_waysOfMatters 16 = .ok (.iconst 2, 1) := by decide +kernel
theorem dX4_waysOfMatters_17 : decode cX4_waysOfMatters 17 = .ok (.iload 4, 2) := by decide +kernel
theorem dX4_waysOfMatters_19 : decode cX4_waysOfMatters 19 = .ok (.imul, 1) := by decide +kernel
theorem dX4_waysOfMatters_20 : decode cX4_waysOfMatters 20 = .ok (.iconst 1, 1) := by decide +kernel
theorem dX4_waysOfMatters_21 : decode cX4_waysOfMatters 21 = .ok (.iadd, 1) := by decide +kernel
theorem dX4_waysOfMatters_22 : decode cX4_waysOfMatters 22 = .ok (.i2l, 1) := by decide +kernel
theorem dX4_waysOfMatters_23 : decode cX4_waysOfMatters 23 = .ok (.lmul, 1) := by decide +kernel
theorem dX4_waysOfMatters_24 : decode cX4_waysOfMatters 24 = .ok (.iload 4, 2) := by decide +kernel
theorem dX4_waysOfMatters_26 : decode cX4_waysOfMatters 26 = .ok (.iconst 2, 1) := by decide +kernel
theorem dX4_waysOfMatters_27 : decode cX4_waysOfMatters 27 = .ok (.iadd, 1) := by decide +kernel
theorem dX4_waysOfMatters_28 : decode cX4_waysOfMatters 28 = .ok (.i2l, 1) := by decide +kernel
theorem dX4_waysOfMatters_29 : decode cX4_waysOfMatters 29 = .ok (.ldiv, 1) := by decide +kernel
theorem dX4_waysOfMatters_30 : decode cX4_waysOfMatters 30 = .ok (.lstore_n 2, 1) := by decide +kernel
theorem dX4_waysOfMatters_31 : decode cX4_waysOfMatters 31 = .ok (.iinc 4 1, 3) := by decide +kernel
theorem dX4_waysOfMatters_34 : decode cX4_waysOfMatters 34 = .ok (.goto (-29), 3) := by decide +kernel
theorem dX4_waysOfMatters_37 : decode cX4_waysOfMatters 37 = .ok (.lload_n 2, 1) := by decide +kernel
theorem dX4_waysOfMatters_38 : decode cX4_waysOfMatters 38 = .ok (.l2i, 1) := by decide +kernel
theorem dX4_waysOfMatters_39 : decode cX4_waysOfMatters 39 = .ok (.ireturn, 1) := by decide +kernel
theorem dX4_waysHeard_0 : decode cX4_waysHeard 0 = .ok (.aload_n 0, 1) := by decide +kernel
theorem dX4_waysHeard_1 : decode cX4_waysHeard 1 = .ok (.getfield 56, 3) := by decide +kernel
theorem dX4_waysHeard_4 : decode cX4_waysHeard 4 = .ok (.getfield 127, 3) := by decide +kernel
theorem dX4_waysHeard_7 : decode cX4_waysHeard 7 = .ok (.invokevirtual 66, 3) := by decide +kernel
theorem dX4_waysHeard_10 : decode cX4_waysHeard 10 = .ok (.istore_n 1, 1) := by decide +kernel
theorem dX4_waysHeard_11 : decode cX4_waysHeard 11 = .ok (.aload_n 0, 1) := by decide +kernel
theorem dX4_waysHeard_12 : decode cX4_waysHeard 12 = .ok (.getfield 56, 3) := by decide +kernel
theorem dX4_waysHeard_15 : decode cX4_waysHeard 15 = .ok (.getfield 130, 3) := by decide +kernel
theorem dX4_waysHeard_18 : decode cX4_waysHeard 18 = .ok (.invokevirtual 66, 3) := by decide +kernel
theorem dX4_waysHeard_21 : decode cX4_waysHeard 21 = .ok (.istore_n 2, 1) := by decide +kernel
theorem dX4_waysHeard_22 : decode cX4_waysHeard 22 = .ok (.aload_n 0, 1) := by decide +kernel
theorem dX4_waysHeard_23 : decode cX4_waysHeard 23 = .ok (.getfield 56, 3) := by decide +kernel
theorem dX4_waysHeard_26 : decode cX4_waysHeard 26 = .ok (.getfield 133, 3) := by decide +kernel
theorem dX4_waysHeard_29 : decode cX4_waysHeard 29 = .ok (.invokevirtual 66, 3) := by decide +kernel
theorem dX4_waysHeard_32 : decode cX4_waysHeard 32 = .ok (.iload_n 1, 1) := by decide +kernel
theorem dX4_waysHeard_33 : decode cX4_waysHeard 33 = .ok (.iload_n 2, 1) := by decide +kernel
theorem dX4_waysHeard_34 : decode cX4_waysHeard 34 = .ok (.iadd, 1) := by decide +kernel
theorem dX4_waysHeard_35 : decode cX4_waysHeard 35 = .ok (.if_icmp .ne 12, 3) := by decide +kernel
theorem dX4_waysHeard_38 : decode cX4_waysHeard 38 = .ok (.iload_n 2, 1) := by decide +kernel
theorem dX4_waysHeard_39 : decode cX4_waysHeard 39 = .ok (.aload_n 0, 1) := by decide +kernel
theorem dX4_waysHeard_40 : decode cX4_waysHeard 40 = .ok (.getfield 31, 3) := by decide +kernel
theorem dX4_waysHeard_43 : decode cX4_waysHeard 43 = .ok (.arraylength, 1) := by decide +kernel
theorem dX4_waysHeard_44 : decode cX4_waysHeard 44 = .ok (.if_icmp .lt 5, 3) := by decide +kernel
theorem dX4_waysHeard_47 : decode cX4_waysHeard 47 = .ok (.iconst 0, 1) := by decide +kernel
theorem dX4_waysHeard_48 : decode cX4_waysHeard 48 = .ok (.ireturn, 1) := by decide +kernel
theorem dX4_waysHeard_49 : decode cX4_waysHeard 49 = .ok (.iconst 0, 1) := by decide +kernel
theorem dX4_waysHeard_50 : decode cX4_waysHeard 50 = .ok (.istore_n 3, 1) := by decide +kernel
theorem dX4_waysHeard_51 : decode cX4_waysHeard 51 = .ok (.iload_n 3, 1) := by decide +kernel
theorem dX4_waysHeard_52 : decode cX4_waysHeard 52 = .ok (.iload_n 1, 1) := by decide +kernel
theorem dX4_waysHeard_53 : decode cX4_waysHeard 53 = .ok (.if_icmp .gt 146, 3) := by decide +kernel
theorem dX4_waysHeard_56 : decode cX4_waysHeard 56 = .ok (.iconst 0, 1) := by decide +kernel
theorem dX4_waysHeard_57 : decode cX4_waysHeard 57 = .ok (.istore 4, 2) := by decide +kernel
theorem dX4_waysHeard_59 : decode cX4_waysHeard 59 = .ok (.iload 4, 2) := by decide +kernel
theorem dX4_waysHeard_61 : decode cX4_waysHeard 61 = .ok (.iload_n 2, 1) := by decide +kernel
theorem dX4_waysHeard_62 : decode cX4_waysHeard 62 = .ok (.if_icmp .gt 131, 3) := by decide +kernel
theorem dX4_waysHeard_65 : decode cX4_waysHeard 65 = .ok (.iload_n 3, 1) := by decide +kernel
theorem dX4_waysHeard_66 : decode cX4_waysHeard 66 = .ok (.ifCond .ne 12, 3) := by decide +kernel
theorem dX4_waysHeard_69 : decode cX4_waysHeard 69 = .ok (.iload 4, 2) := by decide +kernel
theorem dX4_waysHeard_71 : decode cX4_waysHeard 71 = .ok (.ifCond .ne 7, 3) := by decide +kernel
theorem dX4_waysHeard_74 : decode cX4_waysHeard 74 = .ok (.lconst 1, 1) := by decide +kernel
theorem dX4_waysHeard_75 : decode cX4_waysHeard 75 = .ok (.goto 4, 3) := by decide +kernel
theorem dX4_waysHeard_78 : decode cX4_waysHeard 78 = .ok (.lconst 0, 1) := by decide +kernel
theorem dX4_waysHeard_79 : decode cX4_waysHeard 79 = .ok (.lstore 5, 2) := by decide +kernel
theorem dX4_waysHeard_81 : decode cX4_waysHeard 81 = .ok (.aload_n 0, 1) := by decide +kernel
theorem dX4_waysHeard_82 : decode cX4_waysHeard 82 = .ok (.getfield 56, 3) := by decide +kernel
theorem dX4_waysHeard_85 : decode cX4_waysHeard 85 = .ok (.getfield 133, 3) := by decide +kernel
theorem dX4_waysHeard_88 : decode cX4_waysHeard 88 = .ok (.iload_n 3, 1) := by decide +kernel
theorem dX4_waysHeard_89 : decode cX4_waysHeard 89 = .ok (.iload 4, 2) := by decide +kernel
theorem dX4_waysHeard_91 : decode cX4_waysHeard 91 = .ok (.iadd, 1) := by decide +kernel
theorem dX4_waysHeard_92 : decode cX4_waysHeard 92 = .ok (.iconst 1, 1) := by decide +kernel
theorem dX4_waysHeard_93 : decode cX4_waysHeard 93 = .ok (.isub, 1) := by decide +kernel
theorem dX4_waysHeard_94 : decode cX4_waysHeard 94 = .ok (.iconst 0, 1) := by decide +kernel
theorem dX4_waysHeard_95 : decode cX4_waysHeard 95 = .ok (.invokevirtual 72, 3) := by decide +kernel
theorem dX4_waysHeard_98 : decode cX4_waysHeard 98 = .ok (.istore 7, 2) := by decide +kernel
theorem dX4_waysHeard_100 : decode cX4_waysHeard 100 = .ok (.iload_n 3, 1) := by decide +kernel
theorem dX4_waysHeard_101 : decode cX4_waysHeard 101 = .ok (.ifCond .le 34, 3) := by decide +kernel
theorem dX4_waysHeard_104 : decode cX4_waysHeard 104 = .ok (.aload_n 0, 1) := by decide +kernel
theorem dX4_waysHeard_105 : decode cX4_waysHeard 105 = .ok (.getfield 56, 3) := by decide +kernel
theorem dX4_waysHeard_108 : decode cX4_waysHeard 108 = .ok (.getfield 127, 3) := by decide +kernel
theorem dX4_waysHeard_111 : decode cX4_waysHeard 111 = .ok (.iload_n 3, 1) := by decide +kernel
theorem dX4_waysHeard_112 : decode cX4_waysHeard 112 = .ok (.iconst 1, 1) := by decide +kernel
theorem dX4_waysHeard_113 : decode cX4_waysHeard 113 = .ok (.isub, 1) := by decide +kernel
theorem dX4_waysHeard_114 : decode cX4_waysHeard 114 = .ok (.iconst 0, 1) := by decide +kernel
theorem dX4_waysHeard_115 : decode cX4_waysHeard 115 = .ok (.invokevirtual 72, 3) := by decide +kernel
theorem dX4_waysHeard_118 : decode cX4_waysHeard 118 = .ok (.iload 7, 2) := by decide +kernel
theorem dX4_waysHeard_120 : decode cX4_waysHeard 120 = .ok (.if_icmp .ne 15, 3) := by decide +kernel
theorem dX4_waysHeard_123 : decode cX4_waysHeard 123 = .ok (.lload 5, 2) := by decide +kernel
theorem dX4_waysHeard_125 : decode cX4_waysHeard 125 = .ok (.aload_n 0, 1) := by decide +kernel
theorem dX4_waysHeard_126 : decode cX4_waysHeard 126 = .ok (.getfield 31, 3) := by decide +kernel
theorem dX4_waysHeard_129 : decode cX4_waysHeard 129 = .ok (.iload 4, 2) := by decide +kernel
theorem dX4_waysHeard_131 : decode cX4_waysHeard 131 = .ok (.laload, 1) := by decide +kernel
theorem dX4_waysHeard_132 : decode cX4_waysHeard 132 = .ok (.ladd, 1) := by decide +kernel
theorem dX4_waysHeard_133 : decode cX4_waysHeard 133 = .ok (.lstore 5, 2) := by decide +kernel
theorem dX4_waysHeard_135 : decode cX4_waysHeard 135 = .ok (.iload 4, 2) := by decide +kernel
theorem dX4_waysHeard_137 : decode cX4_waysHeard 137 = .ok (.ifCond .le 37, 3) := by decide +kernel
theorem dX4_waysHeard_140 : decode cX4_waysHeard 140 = .ok (.aload_n 0, 1) := by decide +kernel
theorem dX4_waysHeard_141 : decode cX4_waysHeard 141 = .ok (.getfield 56, 3) := by decide +kernel
theorem dX4_waysHeard_144 : decode cX4_waysHeard 144 = .ok (.getfield 130, 3) := by decide +kernel
theorem dX4_waysHeard_147 : decode cX4_waysHeard 147 = .ok (.iload 4, 2) := by decide +kernel
theorem dX4_waysHeard_149 : decode cX4_waysHeard 149 = .ok (.iconst 1, 1) := by decide +kernel
theorem dX4_waysHeard_150 : decode cX4_waysHeard 150 = .ok (.isub, 1) := by decide +kernel
theorem dX4_waysHeard_151 : decode cX4_waysHeard 151 = .ok (.iconst 0, 1) := by decide +kernel
theorem dX4_waysHeard_152 : decode cX4_waysHeard 152 = .ok (.invokevirtual 72, 3) := by decide +kernel
theorem dX4_waysHeard_155 : decode cX4_waysHeard 155 = .ok (.iload 7, 2) := by decide +kernel
theorem dX4_waysHeard_157 : decode cX4_waysHeard 157 = .ok (.if_icmp .ne 17, 3) := by decide +kernel
theorem dX4_waysHeard_160 : decode cX4_waysHeard 160 = .ok (.lload 5, 2) := by decide +kernel
theorem dX4_waysHeard_162 : decode cX4_waysHeard 162 = .ok (.aload_n 0, 1) := by decide +kernel
theorem dX4_waysHeard_163 : decode cX4_waysHeard 163 = .ok (.getfield 31, 3) := by decide +kernel
theorem dX4_waysHeard_166 : decode cX4_waysHeard 166 = .ok (.iload 4, 2) := by decide +kernel
theorem dX4_waysHeard_168 : decode cX4_waysHeard 168 = .ok (.iconst 1, 1) := by decide +kernel
theorem dX4_waysHeard_169 : decode cX4_waysHeard 169 = .ok (.isub, 1) := by decide +kernel
theorem dX4_waysHeard_170 : decode cX4_waysHeard 170 = .ok (.laload, 1) := by decide +kernel
theorem dX4_waysHeard_171 : decode cX4_waysHeard 171 = .ok (.ladd, 1) := by decide +kernel
theorem dX4_waysHeard_172 : decode cX4_waysHeard 172 = .ok (.lstore 5, 2) := by decide +kernel
theorem dX4_waysHeard_174 : decode cX4_waysHeard 174 = .ok (.aload_n 0, 1) := by decide +kernel
theorem dX4_waysHeard_175 : decode cX4_waysHeard 175 = .ok (.getfield 31, 3) := by decide +kernel
theorem dX4_waysHeard_178 : decode cX4_waysHeard 178 = .ok (.iload 4, 2) := by decide +kernel
theorem dX4_waysHeard_180 : decode cX4_waysHeard 180 = .ok (.lload 5, 2) := by decide +kernel
theorem dX4_waysHeard_182 : decode cX4_waysHeard 182 = .ok (.ldc2_w 113, 3) := by decide +kernel
theorem dX4_waysHeard_185 : decode cX4_waysHeard 185 = .ok (.lrem, 1) := by decide +kernel
theorem dX4_waysHeard_186 : decode cX4_waysHeard 186 = .ok (.lastore, 1) := by decide +kernel
theorem dX4_waysHeard_187 : decode cX4_waysHeard 187 = .ok (.iinc 4 1, 3) := by decide +kernel
theorem dX4_waysHeard_190 : decode cX4_waysHeard 190 = .ok (.goto (-131), 3) := by decide +kernel
theorem dX4_waysHeard_193 : decode cX4_waysHeard 193 = .ok (.iinc 3 1, 3) := by decide +kernel
theorem dX4_waysHeard_196 : decode cX4_waysHeard 196 = .ok (.goto (-145), 3) := by decide +kernel
theorem dX4_waysHeard_199 : decode cX4_waysHeard 199 = .ok (.aload_n 0, 1) := by decide +kernel
theorem dX4_waysHeard_200 : decode cX4_waysHeard 200 = .ok (.getfield 31, 3) := by decide +kernel
theorem dX4_waysHeard_203 : decode cX4_waysHeard 203 = .ok (.iload_n 2, 1) := by decide +kernel
theorem dX4_waysHeard_204 : decode cX4_waysHeard 204 = .ok (.laload, 1) := by decide +kernel
theorem dX4_waysHeard_205 : decode cX4_waysHeard 205 = .ok (.l2i, 1) := by decide +kernel
theorem dX4_waysHeard_206 : decode cX4_waysHeard 206 = .ok (.ireturn, 1) := by decide +kernel
theorem dX4_fairestSeat_0 : decode cX4_fairestSeat 0 = .ok (.aload_n 0, 1) := by decide +kernel
theorem dX4_fairestSeat_1 : decode cX4_fairestSeat 1 = .ok (.getfield 56, 3) := by decide +kernel
theorem dX4_fairestSeat_4 : decode cX4_fairestSeat 4 = .ok (.getfield 136, 3) := by decide +kernel
theorem dX4_fairestSeat_7 : decode cX4_fairestSeat 7 = .ok (.invokevirtual 66, 3) := by decide +kernel
theorem dX4_fairestSeat_10 : decode cX4_fairestSeat 10 = .ok (.istore_n 1, 1) := by decide +kernel
theorem dX4_fairestSeat_11 : decode cX4_fairestSeat 11 = .ok (.iconst 0, 1) := by decide +kernel
theorem dX4_fairestSeat_12 : decode cX4_fairestSeat 12 = .ok (.istore_n 2, 1) := by decide +kernel
theorem dX4_fairestSeat_13 : decode cX4_fairestSeat 13 = .ok (.iconst 1, 1) := by decide +kernel
theorem dX4_fairestSeat_14 : decode cX4_fairestSeat 14 = .ok (.istore_n 3, 1) := by decide +kernel
theorem dX4_fairestSeat_15 : decode cX4_fairestSeat 15 = .ok (.iload_n 3, 1) := by decide +kernel
theorem dX4_fairestSeat_16 : decode cX4_fairestSeat 16 = .ok (.iconst 1, 1) := by decide +kernel
theorem dX4_fairestSeat_17 : decode cX4_fairestSeat 17 = .ok (.iload_n 1, 1) := by decide +kernel
theorem dX4_fairestSeat_18 : decode cX4_fairestSeat 18 = .ok (.ishl, 1) := by decide +kernel
theorem dX4_fairestSeat_19 : decode cX4_fairestSeat 19 = .ok (.if_icmp .ge 41, 3) := by decide +kernel
theorem dX4_fairestSeat_22 : decode cX4_fairestSeat 22 = .ok (.iconst 2, 1) := by decide +kernel
theorem dX4_fairestSeat_23 : decode cX4_fairestSeat 23 = .ok (.iload_n 3, 1) := by decide +kernel
theorem dX4_fairestSeat_24 : decode cX4_fairestSeat 24 = .ok (.invokestatic 139, 3) := by decide +kernel
theorem dX4_fairestSeat_27 : decode cX4_fairestSeat 27 = .ok (.imul, 1) := by decide +kernel
theorem dX4_fairestSeat_28 : decode cX4_fairestSeat 28 = .ok (.iload_n 1, 1) := by decide +kernel
theorem dX4_fairestSeat_29 : decode cX4_fairestSeat 29 = .ok (.if_icmp .eq 6, 3) := by decide +kernel
theorem dX4_fairestSeat_32 : decode cX4_fairestSeat 32 = .ok (.goto 22, 3) := by decide +kernel
theorem dX4_fairestSeat_35 : decode cX4_fairestSeat 35 = .ok (.iload_n 2, 1) := by decide +kernel
theorem dX4_fairestSeat_36 : decode cX4_fairestSeat 36 = .ok (.ifCond .eq 16, 3) := by decide +kernel
theorem dX4_fairestSeat_39 : decode cX4_fairestSeat 39 = .ok (.aload_n 0, 1) := by decide +kernel
theorem dX4_fairestSeat_40 : decode cX4_fairestSeat 40 = .ok (.iload_n 3, 1) := by decide +kernel
theorem dX4_fairestSeat_41 : decode cX4_fairestSeat 41 = .ok (.invokevirtual 144, 3) := by decide +kernel
theorem dX4_fairestSeat_44 : decode cX4_fairestSeat 44 = .ok (.aload_n 0, 1) := by decide +kernel
theorem dX4_fairestSeat_45 : decode cX4_fairestSeat 45 = .ok (.iload_n 2, 1) := by decide +kernel
theorem dX4_fairestSeat_46 : decode cX4_fairestSeat 46 = .ok (.invokevirtual 144, 3) := by decide +kernel
theorem dX4_fairestSeat_49 : decode cX4_fairestSeat 49 = .ok (.if_icmp .ge 5, 3) := by decide +kernel
theorem dX4_fairestSeat_52 : decode cX4_fairestSeat 52 = .ok (.iload_n 3, 1) := by decide +kernel
theorem dX4_fairestSeat_53 : decode cX4_fairestSeat 53 = .ok (.istore_n 2, 1) := by decide +kernel
theorem dX4_fairestSeat_54 : decode cX4_fairestSeat 54 = .ok (.iinc 3 2, 3) := by decide +kernel
theorem dX4_fairestSeat_57 : decode cX4_fairestSeat 57 = .ok (.goto (-42), 3) := by decide +kernel
theorem dX4_fairestSeat_60 : decode cX4_fairestSeat 60 = .ok (.iload_n 2, 1) := by decide +kernel
theorem dX4_fairestSeat_61 : decode cX4_fairestSeat 61 = .ok (.ireturn, 1) := by decide +kernel
theorem dX4_heavierBy_0 : decode cX4_heavierBy 0 = .ok (.iconst 0, 1) := by decide +kernel
theorem dX4_heavierBy_1 : decode cX4_heavierBy 1 = .ok (.istore_n 2, 1) := by decide +kernel
theorem dX4_heavierBy_2 : decode cX4_heavierBy 2 = .ok (.iconst 0, 1) := by decide +kernel
theorem dX4_heavierBy_3 : decode cX4_heavierBy 3 = .ok (.istore_n 3, 1) := by decide +kernel
theorem dX4_heavierBy_4 : decode cX4_heavierBy 4 = .ok (.iload_n 3, 1) := by decide +kernel
theorem dX4_heavierBy_5 : decode cX4_heavierBy 5 = .ok (.aload_n 0, 1) := by decide +kernel
theorem dX4_heavierBy_6 : decode cX4_heavierBy 6 = .ok (.getfield 56, 3) := by decide +kernel
theorem dX4_heavierBy_9 : decode cX4_heavierBy 9 = .ok (.getfield 136, 3) := by decide +kernel
theorem dX4_heavierBy_12 : decode cX4_heavierBy 12 = .ok (.invokevirtual 66, 3) := by decide +kernel
theorem dX4_heavierBy_15 : decode cX4_heavierBy 15 = .ok (.if_icmp .ge 43, 3) := by decide +kernel
theorem dX4_heavierBy_18 : decode cX4_heavierBy 18 = .ok (.aload_n 0, 1) := by decide +kernel
theorem dX4_heavierBy_19 : decode cX4_heavierBy 19 = .ok (.getfield 56, 3) := by decide +kernel
theorem dX4_heavierBy_22 : decode cX4_heavierBy 22 = .ok (.getfield 136, 3) := by decide +kernel
theorem dX4_heavierBy_25 : decode cX4_heavierBy 25 = .ok (.iload_n 3, 1) := by decide +kernel
theorem dX4_heavierBy_26 : decode cX4_heavierBy 26 = .ok (.iconst 0, 1) := by decide +kernel
theorem dX4_heavierBy_27 : decode cX4_heavierBy 27 = .ok (.invokevirtual 72, 3) := by decide +kernel
theorem dX4_heavierBy_30 : decode cX4_heavierBy 30 = .ok (.istore 4, 2) := by decide +kernel
theorem dX4_heavierBy_32 : decode cX4_heavierBy 32 = .ok (.iload_n 2, 1) := by decide +kernel
theorem dX4_heavierBy_33 : decode cX4_heavierBy 33 = .ok (.iload_n 1, 1) := by decide +kernel
theorem dX4_heavierBy_34 : decode cX4_heavierBy 34 = .ok (.iload_n 3, 1) := by decide +kernel
theorem dX4_heavierBy_35 : decode cX4_heavierBy 35 = .ok (.ishr, 1) := by decide +kernel
theorem dX4_heavierBy_36 : decode cX4_heavierBy 36 = .ok (.iconst 1, 1) := by decide +kernel
theorem dX4_heavierBy_37 : decode cX4_heavierBy 37 = .ok (.iand, 1) := by decide +kernel
theorem dX4_heavierBy_38 : decode cX4_heavierBy 38 = .ok (.iconst 1, 1) := by decide +kernel
theorem dX4_heavierBy_39 : decode cX4_heavierBy 39 = .ok (.if_icmp .ne 8, 3) := by decide +kernel
theorem dX4_heavierBy_42 : decode cX4_heavierBy 42 = .ok (.iload 4, 2) := by decide +kernel
theorem dX4_heavierBy_44 : decode cX4_heavierBy 44 = .ok (.goto 6, 3) := by decide +kernel
theorem dX4_heavierBy_47 : decode cX4_heavierBy 47 = .ok (.iload 4, 2) := by decide +kernel
theorem dX4_heavierBy_49 : decode cX4_heavierBy 49 = .ok (.ineg, 1) := by decide +kernel
theorem dX4_heavierBy_50 : decode cX4_heavierBy 50 = .ok (.iadd, 1) := by decide +kernel
theorem dX4_heavierBy_51 : decode cX4_heavierBy 51 = .ok (.istore_n 2, 1) := by decide +kernel
theorem dX4_heavierBy_52 : decode cX4_heavierBy 52 = .ok (.iinc 3 1, 3) := by decide +kernel
theorem dX4_heavierBy_55 : decode cX4_heavierBy 55 = .ok (.goto (-51), 3) := by decide +kernel
theorem dX4_heavierBy_58 : decode cX4_heavierBy 58 = .ok (.iload_n 2, 1) := by decide +kernel
theorem dX4_heavierBy_59 : decode cX4_heavierBy 59 = .ok (.invokestatic 118, 3) := by decide +kernel
theorem dX4_heavierBy_62 : decode cX4_heavierBy 62 = .ok (.ireturn, 1) := by decide +kernel
theorem dX4_findEnemies_0 : decode cX4_findEnemies 0 = .ok (.aload_n 0, 1) := by decide +kernel
theorem dX4_findEnemies_1 : decode cX4_findEnemies 1 = .ok (.getfield 24, 3) := by decide +kernel
theorem dX4_findEnemies_4 : decode cX4_findEnemies 4 = .ok (.iconst 0, 1) := by decide +kernel
theorem dX4_findEnemies_5 : decode cX4_findEnemies 5 = .ok (.invokestatic 84, 3) := by decide +kernel
theorem dX4_findEnemies_8 : decode cX4_findEnemies 8 = .ok (.iconst 0, 1) := by decide +kernel
theorem dX4_findEnemies_9 : decode cX4_findEnemies 9 = .ok (.istore_n 2, 1) := by decide +kernel
theorem dX4_findEnemies_10 : decode cX4_findEnemies 10 = .ok (.iload_n 2, 1) := by decide +kernel
theorem dX4_findEnemies_11 : decode cX4_findEnemies 11 = .ok (.aload_n 0, 1) := by decide +kernel
theorem dX4_findEnemies_12 : decode cX4_findEnemies 12 = .ok (.getfield 56, 3) := by decide +kernel
theorem dX4_findEnemies_15 : decode cX4_findEnemies 15 = .ok (.getfield 147, 3) := by decide +kernel
theorem dX4_findEnemies_18 : decode cX4_findEnemies 18 = .ok (.invokevirtual 66, 3) := by decide +kernel
theorem dX4_findEnemies_21 : decode cX4_findEnemies 21 = .ok (.if_icmp .ge 88, 3) := by decide +kernel
theorem dX4_findEnemies_24 : decode cX4_findEnemies 24 = .ok (.aload_n 0, 1) := by decide +kernel
theorem dX4_findEnemies_25 : decode cX4_findEnemies 25 = .ok (.getfield 56, 3) := by decide +kernel
theorem dX4_findEnemies_28 : decode cX4_findEnemies 28 = .ok (.getfield 147, 3) := by decide +kernel
theorem dX4_findEnemies_31 : decode cX4_findEnemies 31 = .ok (.iload_n 2, 1) := by decide +kernel
theorem dX4_findEnemies_32 : decode cX4_findEnemies 32 = .ok (.iconst 0, 1) := by decide +kernel
theorem dX4_findEnemies_33 : decode cX4_findEnemies 33 = .ok (.invokevirtual 72, 3) := by decide +kernel
theorem dX4_findEnemies_36 : decode cX4_findEnemies 36 = .ok (.istore_n 3, 1) := by decide +kernel
theorem dX4_findEnemies_37 : decode cX4_findEnemies 37 = .ok (.aload_n 0, 1) := by decide +kernel
theorem dX4_findEnemies_38 : decode cX4_findEnemies 38 = .ok (.getfield 56, 3) := by decide +kernel
theorem dX4_findEnemies_41 : decode cX4_findEnemies 41 = .ok (.getfield 147, 3) := by decide +kernel
theorem dX4_findEnemies_44 : decode cX4_findEnemies 44 = .ok (.iload_n 2, 1) := by decide +kernel
theorem dX4_findEnemies_45 : decode cX4_findEnemies 45 = .ok (.iconst 1, 1) := by decide +kernel
theorem dX4_findEnemies_46 : decode cX4_findEnemies 46 = .ok (.invokevirtual 72, 3) := by decide +kernel
theorem dX4_findEnemies_49 : decode cX4_findEnemies 49 = .ok (.istore 4, 2) := by decide +kernel
theorem dX4_findEnemies_51 : decode cX4_findEnemies 51 = .ok (.iload_n 3, 1) := by decide +kernel
theorem dX4_findEnemies_52 : decode cX4_findEnemies 52 = .ok (.iconst 0, 1) := by decide +kernel
theorem dX4_findEnemies_53 : decode cX4_findEnemies 53 = .ok (.iload_n 1, 1) := by decide +kernel
theorem dX4_findEnemies_54 : decode cX4_findEnemies 54 = .ok (.iconst 1, 1) := by decide +kernel
theorem dX4_findEnemies_55 : decode cX4_findEnemies 55 = .ok (.isub, 1) := by decide +kernel
theorem dX4_findEnemies_56 : decode cX4_findEnemies 56 = .ok (.invokestatic 90, 3) := by decide +kernel
theorem dX4_findEnemies_59 : decode cX4_findEnemies 59 = .ok (.ifCond .eq 44, 3) := by decide +kernel
theorem dX4_findEnemies_62 : decode cX4_findEnemies 62 = .ok (.iload 4, 2) := by decide +kernel
theorem dX4_findEnemies_64 : decode cX4_findEnemies 64 = .ok (.iconst 0, 1) := by decide +kernel
theorem dX4_findEnemies_65 : decode cX4_findEnemies 65 = .ok (.iload_n 1, 1) := by decide +kernel
theorem dX4_findEnemies_66 : decode cX4_findEnemies 66 = .ok (.iconst 1, 1) := by decide +kernel
theorem dX4_findEnemies_67 : decode cX4_findEnemies 67 = .ok (.isub, 1) := by decide +kernel
theorem dX4_findEnemies_68 : decode cX4_findEnemies 68 = .ok (.invokestatic 90, 3) := by decide +kernel
theorem dX4_findEnemies_71 : decode cX4_findEnemies 71 = .ok (.ifCond .ne 6, 3) := by decide +kernel
theorem dX4_findEnemies_74 : decode cX4_findEnemies 74 = .ok (.goto 29, 3) := by decide +kernel
theorem dX4_findEnemies_77 : decode cX4_findEnemies 77 = .ok (.aload_n 0, 1) := by decide +kernel
theorem dX4_findEnemies_78 : decode cX4_findEnemies 78 = .ok (.getfield 24, 3) := by decide +kernel
theorem dX4_findEnemies_81 : decode cX4_findEnemies 81 = .ok (.iload_n 3, 1) := by decide +kernel
theorem dX4_findEnemies_82 : decode cX4_findEnemies 82 = .ok (.dup2, 1) := by decide +kernel
theorem dX4_findEnemies_83 : decode cX4_findEnemies 83 = .ok (.iaload, 1) := by decide +kernel
theorem dX4_findEnemies_84 : decode cX4_findEnemies 84 = .ok (.iconst 1, 1) := by decide +kernel
theorem dX4_findEnemies_85 : decode cX4_findEnemies 85 = .ok (.iload 4, 2) := by decide +kernel
theorem dX4_findEnemies_87 : decode cX4_findEnemies 87 = .ok (.ishl, 1) := by decide +kernel
theorem dX4_findEnemies_88 : decode cX4_findEnemies 88 = .ok (.ior, 1) := by decide +kernel
theorem dX4_findEnemies_89 : decode cX4_findEnemies 89 = .ok (.iastore, 1) := by decide +kernel
theorem dX4_findEnemies_90 : decode cX4_findEnemies 90 = .ok (.aload_n 0, 1) := by decide +kernel
theorem dX4_findEnemies_91 : decode cX4_findEnemies 91 = .ok (.getfield 24, 3) := by decide +kernel
theorem dX4_findEnemies_94 : decode cX4_findEnemies 94 = .ok (.iload 4, 2) := by decide +kernel
theorem dX4_findEnemies_96 : decode cX4_findEnemies 96 = .ok (.dup2, 1) := by decide +kernel
theorem dX4_findEnemies_97 : decode cX4_findEnemies 97 = .ok (.iaload, 1) := by decide +kernel
theorem dX4_findEnemies_98 : decode cX4_findEnemies 98 = .ok (.iconst 1, 1) := by decide +kernel
theorem dX4_findEnemies_99 : decode cX4_findEnemies 99 = .ok (.iload_n 3, 1) := by decide +kernel
theorem dX4_findEnemies_100 : decode cX4_findEnemies 100 = .ok (.ishl, 1) := by decide +kernel
theorem dX4_findEnemies_101 : decode cX4_findEnemies 101 = .ok (.ior, 1) := by decide +kernel
theorem dX4_findEnemies_102 : decode cX4_findEnemies 102 = .ok (.iastore, 1) := by decide +kernel
theorem dX4_findEnemies_103 : decode cX4_findEnemies 103 = .ok (.iinc 2 1, 3) := by decide +kernel
theorem dX4_findEnemies_106 : decode cX4_findEnemies 106 = .ok (.goto (-96), 3) := by decide +kernel
theorem dX4_findEnemies_109 : decode cX4_findEnemies 109 = .ok (.return_, 1) := by decide +kernel
theorem dX4_waysToSit_0 : decode cX4_waysToSit 0 = .ok (.iload_n 1, 1) := by decide +kernel
theorem dX4_waysToSit_1 : decode cX4_waysToSit 1 = .ok (.iconst 1, 1) := by decide +kernel
theorem dX4_waysToSit_2 : decode cX4_waysToSit 2 = .ok (.bipush 8, 2) := by decide +kernel
theorem dX4_waysToSit_4 : decode cX4_waysToSit 4 = .ok (.invokestatic 90, 3) := by decide +kernel
theorem dX4_waysToSit_7 : decode cX4_waysToSit 7 = .ok (.ifCond .ne 5, 3) := by decide +kernel
theorem dX4_waysToSit_10 : decode cX4_waysToSit 10 = .ok (.iconst (-1), 1) := by decide +kernel
theorem dX4_waysToSit_11 : decode cX4_waysToSit 11 = .ok (.ireturn, 1) := by decide +kernel
theorem dX4_waysToSit_12 : decode cX4_waysToSit 12 = .ok (.aload_n 0, 1) := by decide +kernel
theorem dX4_waysToSit_13 : decode cX4_waysToSit 13 = .ok (.iload_n 1, 1) := by decide +kernel
theorem dX4_waysToSit_14 : decode cX4_waysToSit 14 = .ok (.invokevirtual 150, 3) := by decide +kernel
theorem dX4_waysToSit_17 : decode cX4_waysToSit 17 = .ok (.iconst 1, 1) := by decide +kernel
theorem dX4_waysToSit_18 : decode cX4_waysToSit 18 = .ok (.iload_n 1, 1) := by decide +kernel
theorem dX4_waysToSit_19 : decode cX4_waysToSit 19 = .ok (.ishl, 1) := by decide +kernel
theorem dX4_waysToSit_20 : decode cX4_waysToSit 20 = .ok (.iconst 1, 1) := by decide +kernel
theorem dX4_waysToSit_21 : decode cX4_waysToSit 21 = .ok (.isub, 1) := by decide +kernel
theorem dX4_waysToSit_22 : decode cX4_waysToSit 22 = .ok (.istore_n 3, 1) := by decide +kernel
theorem dX4_waysToSit_23 : decode cX4_waysToSit 23 = .ok (.iconst 1, 1) := by decide +kernel
theorem dX4_waysToSit_24 : decode cX4_waysToSit 24 = .ok (.istore 4, 2) := by decide +kernel
theorem dX4_waysToSit_26 : decode cX4_waysToSit 26 = .ok (.iload 4, 2) := by decide +kernel
theorem dX4_waysToSit_28 : decode cX4_waysToSit 28 = .ok (.iload_n 3, 1) := by decide +kernel
theorem dX4_waysToSit_29 : decode cX4_waysToSit 29 = .ok (.if_icmp .gt 47, 3) := by decide +kernel
theorem dX4_waysToSit_32 : decode cX4_waysToSit 32 = .ok (.iconst 0, 1) := by decide +kernel
theorem dX4_waysToSit_33 : decode cX4_waysToSit 33 = .ok (.istore 5, 2) := by decide +kernel
theorem dX4_waysToSit_35 : decode cX4_waysToSit 35 = .ok (.iload 5, 2) := by decide +kernel
theorem dX4_waysToSit_37 : decode cX4_waysToSit 37 = .ok (.iload_n 1, 1) := by decide +kernel
theorem dX4_waysToSit_38 : decode cX4_waysToSit 38 = .ok (.if_icmp .ge 32, 3) := by decide +kernel
theorem dX4_waysToSit_41 : decode cX4_waysToSit 41 = .ok (.aload_n 0, 1) := by decide +kernel
theorem dX4_waysToSit_42 : decode cX4_waysToSit 42 = .ok (.getfield 18, 3) := by decide +kernel
theorem dX4_waysToSit_45 : decode cX4_waysToSit 45 = .ok (.iload 4, 2) := by decide +kernel
theorem dX4_waysToSit_47 : decode cX4_waysToSit 47 = .ok (.bipush 8, 2) := by decide +kernel
theorem dX4_waysToSit_49 : decode cX4_waysToSit 49 = .ok (.imul, 1) := by decide +kernel
theorem dX4_waysToSit_50 : decode cX4_waysToSit 50 = .ok (.iload 5, 2) := by decide +kernel
theorem dX4_waysToSit_52 : decode cX4_waysToSit 52 = .ok (.iadd, 1) := by decide +kernel
theorem dX4_waysToSit_53 : decode cX4_waysToSit 53 = .ok (.aload_n 0, 1) := by decide +kernel
theorem dX4_waysToSit_54 : decode cX4_waysToSit 54 = .ok (.iload 4, 2) := by decide +kernel
theorem dX4_waysToSit_56 : decode cX4_waysToSit 56 = .ok (.iload 5, 2) := by decide +kernel
theorem dX4_waysToSit_58 : decode cX4_waysToSit 58 = .ok (.iload_n 1, 1) := by decide +kernel
theorem dX4_waysToSit_59 : decode cX4_waysToSit 59 = .ok (.iload_n 2, 1) := by decide +kernel
theorem dX4_waysToSit_60 : decode cX4_waysToSit 60 = .ok (.invokevirtual 153, 3) := by decide +kernel
theorem dX4_waysToSit_63 : decode cX4_waysToSit 63 = .ok (.iastore, 1) := by decide +kernel
theorem dX4_waysToSit_64 : decode cX4_waysToSit 64 = .ok (.iinc 5 1, 3) := by decide +kernel
theorem dX4_waysToSit_67 : decode cX4_waysToSit 67 = .ok (.goto (-32), 3) := by decide +kernel
theorem dX4_waysToSit_70 : decode cX4_waysToSit 70 = .ok (.iinc 4 1, 3) := by decide +kernel
theorem dX4_waysToSit_73 : decode cX4_waysToSit 73 = .ok (.goto (-47), 3) := by decide +kernel
theorem dX4_waysToSit_76 : decode cX4_waysToSit 76 = .ok (.iconst 0, 1) := by decide +kernel
theorem dX4_waysToSit_77 : decode cX4_waysToSit 77 = .ok (.istore 4, 2) := by decide +kernel
theorem dX4_waysToSit_79 : decode cX4_waysToSit 79 = .ok (.iconst 0, 1) := by decide +kernel
theorem dX4_waysToSit_80 : decode cX4_waysToSit 80 = .ok (.istore 5, 2) := by decide +kernel
theorem dX4_waysToSit_82 : decode cX4_waysToSit 82 = .ok (.iload 5, 2) := by decide +kernel
theorem dX4_waysToSit_84 : decode cX4_waysToSit 84 = .ok (.iload_n 1, 1) := by decide +kernel
theorem dX4_waysToSit_85 : decode cX4_waysToSit 85 = .ok (.if_icmp .ge 57, 3) := by decide +kernel
theorem dX4_waysToSit_88 : decode cX4_waysToSit 88 = .ok (.iload_n 2, 1) := by decide +kernel
theorem dX4_waysToSit_89 : decode cX4_waysToSit 89 = .ok (.ifCond .eq 22, 3) := by decide +kernel
theorem dX4_waysToSit_92 : decode cX4_waysToSit 92 = .ok (.aload_n 0, 1) := by decide +kernel
theorem dX4_waysToSit_93 : decode cX4_waysToSit 93 = .ok (.getfield 24, 3) := by decide +kernel
theorem dX4_waysToSit_96 : decode cX4_waysToSit 96 = .ok (.iconst 0, 1) := by decide +kernel
theorem dX4_waysToSit_97 : decode cX4_waysToSit 97 = .ok (.iaload, 1) := by decide +kernel
theorem dX4_waysToSit_98 : decode cX4_waysToSit 98 = .ok (.iload 5, 2) := by decide +kernel
theorem dX4_waysToSit_100 : decode cX4_waysToSit 100 = .ok (.ishr, 1) := by decide +kernel
theorem dX4_waysToSit_101 : decode cX4_waysToSit 101 = .ok (.iconst 1, 1) := by decide +kernel
theorem dX4_waysToSit_102 : decode cX4_waysToSit 102 = .ok (.iand, 1) := by decide +kernel
theorem dX4_waysToSit_103 : decode cX4_waysToSit 103 = .ok (.iconst 1, 1) := by decide +kernel
theorem dX4_waysToSit_104 : decode cX4_waysToSit 104 = .ok (.if_icmp .ne 7, 3) := by decide +kernel
theorem dX4_waysToSit_107 : decode cX4_waysToSit 107 = .ok (.iconst 1, 1) := by decide +kernel
theorem dX4_waysToSit_108 : decode cX4_waysToSit 108 = .ok (.goto 4, 3) := by decide +kernel
theorem dX4_waysToSit_111 : decode cX4_waysToSit 111 = .ok (.iconst 0, 1) := by decide +kernel
theorem dX4_waysToSit_112 : decode cX4_waysToSit 112 = .ok (.istore 6, 2) := by decide +kernel
theorem dX4_waysToSit_114 : decode cX4_waysToSit 114 = .ok (.iload 6, 2) := by decide +kernel
theorem dX4_waysToSit_116 : decode cX4_waysToSit 116 = .ok (.ifCond .ne 20, 3) := by decide +kernel
theorem dX4_waysToSit_119 : decode cX4_waysToSit 119 = .ok (.iload 4, 2) := by decide +kernel
theorem dX4_waysToSit_121 : decode cX4_waysToSit 121 = .ok (.aload_n 0, 1) := by decide +kernel
theorem dX4_waysToSit_122 : decode cX4_waysToSit 122 = .ok (.getfield 18, 3) := by decide +kernel
theorem dX4_waysToSit_125 : decode cX4_waysToSit 125 = .ok (.iload_n 3, 1) := by decide +kernel
theorem dX4_waysToSit_126 : decode cX4_waysToSit 126 = .ok (.bipush 8, 2) := by decide +kernel
theorem dX4_waysToSit_128 : decode cX4_waysToSit 128 = .ok (.imul, 1) := by decide +kernel
theorem dX4_waysToSit_129 : decode cX4_waysToSit 129 = .ok (.iload 5, 2) := by decide +kernel
theorem dX4_waysToSit_131 : decode cX4_waysToSit 131 = .ok (.iadd, 1) := by decide +kernel
theorem dX4_waysToSit_132 : decode cX4_waysToSit 132 = .ok (.iaload, 1) := by decide +kernel
theorem dX4_waysToSit_133 : decode cX4_waysToSit 133 = .ok (.iadd, 1) := by decide +kernel
theorem dX4_waysToSit_134 : decode cX4_waysToSit 134 = .ok (.istore 4, 2) := by decide +kernel
theorem dX4_waysToSit_136 : decode cX4_waysToSit 136 = .ok (.iinc 5 1, 3) := by decide +kernel
theorem dX4_waysToSit_139 : decode cX4_waysToSit 139 = .ok (.goto (-57), 3) := by decide +kernel
theorem dX4_waysToSit_142 : decode cX4_waysToSit 142 = .ok (.iload 4, 2) := by decide +kernel
theorem dX4_waysToSit_144 : decode cX4_waysToSit 144 = .ok (.ireturn, 1) := by decide +kernel
theorem dX4_seatBehind_0 : decode cX4_seatBehind 0 = .ok (.iload_n 1, 1) := by decide +kernel
theorem dX4_seatBehind_1 : decode cX4_seatBehind 1 = .ok (.iload_n 2, 1) := by decide +kernel
theorem dX4_seatBehind_2 : decode cX4_seatBehind 2 = .ok (.ishr, 1) := by decide +kernel
theorem dX4_seatBehind_3 : decode cX4_seatBehind 3 = .ok (.iconst 1, 1) := by decide +kernel
theorem dX4_seatBehind_4 : decode cX4_seatBehind 4 = .ok (.iand, 1) := by decide +kernel
theorem dX4_seatBehind_5 : decode cX4_seatBehind 5 = .ok (.ifCond .ne 5, 3) := by decide +kernel
theorem dX4_seatBehind_8 : decode cX4_seatBehind 8 = .ok (.iconst 0, 1) := by decide +kernel
theorem dX4_seatBehind_9 : decode cX4_seatBehind 9 = .ok (.ireturn, 1) := by decide +kernel
theorem dX4_seatBehind_10 : decode cX4_seatBehind 10 = .ok (.iload_n 1, 1) := by decide +kernel
theorem dX4_seatBehind_11 : decode cX4_seatBehind 11 = .ok (.iconst 1, 1) := by decide +kernel
theorem dX4_seatBehind_12 : decode cX4_seatBehind 12 = .ok (.iload_n 2, 1) := by decide +kernel
theorem dX4_seatBehind_13 : decode cX4_seatBehind 13 = .ok (.ishl, 1) := by decide +kernel
theorem dX4_seatBehind_14 : decode cX4_seatBehind 14 = .ok (.isub, 1) := by decide +kernel
theorem dX4_seatBehind_15 : decode cX4_seatBehind 15 = .ok (.istore 5, 2) := by decide +kernel
theorem dX4_seatBehind_17 : decode cX4_seatBehind 17 = .ok (.iload 5, 2) := by decide +kernel
theorem dX4_seatBehind_19 : decode cX4_seatBehind 19 = .ok (.ifCond .ne 18, 3) := by decide +kernel
theorem dX4_seatBehind_22 : decode cX4_seatBehind 22 = .ok (.iload 4, 2) := by decide +kernel
theorem dX4_seatBehind_24 : decode cX4_seatBehind 24 = .ok (.ifCond .eq 11, 3) := by decide +kernel
theorem dX4_seatBehind_27 : decode cX4_seatBehind 27 = .ok (.iload_n 2, 1) := by decide +kernel
theorem dX4_seatBehind_28 : decode cX4_seatBehind 28 = .ok (.ifCond .eq 7, 3) := by decide +kernel
theorem dX4_seatBehind_31 : decode cX4_seatBehind 31 = .ok (.iconst 0, 1) := by decide +kernel
theorem dX4_seatBehind_32 : decode cX4_seatBehind 32 = .ok (.goto 4, 3) := by decide +kernel
theorem dX4_seatBehind_35 : decode cX4_seatBehind 35 = .ok (.iconst 1, 1) := by decide +kernel
theorem dX4_seatBehind_36 : decode cX4_seatBehind 36 = .ok (.ireturn, 1) := by decide +kernel
theorem dX4_seatBehind_37 : decode cX4_seatBehind 37 = .ok (.iconst 0, 1) := by decide +kernel
theorem dX4_seatBehind_38 : decode cX4_seatBehind 38 = .ok (.istore 6, 2) := by decide +kernel
theorem dX4_seatBehind_40 : decode cX4_seatBehind 40 = .ok (.iconst 0, 1) := by decide +kernel
theorem dX4_seatBehind_41 : decode cX4_seatBehind 41 = .ok (.istore 7, 2) := by decide +kernel
theorem dX4_seatBehind_43 : decode cX4_seatBehind 43 = .ok (.iload 7, 2) := by decide +kernel
theorem dX4_seatBehind_45 : decode cX4_seatBehind 45 = .ok (.iload_n 3, 1) := by decide +kernel
theorem dX4_seatBehind_46 : decode cX4_seatBehind 46 = .ok (.if_icmp .ge 41, 3) := by decide +kernel
theorem dX4_seatBehind_49 : decode cX4_seatBehind 49 = .ok (.aload_n 0, 1) := by decide +kernel
theorem dX4_seatBehind_50 : decode cX4_seatBehind 50 = .ok (.getfield 24, 3) := by decide +kernel
theorem dX4_seatBehind_53 : decode cX4_seatBehind 53 = .ok (.iload_n 2, 1) := by decide +kernel
theorem dX4_seatBehind_54 : decode cX4_seatBehind 54 = .ok (.iaload, 1) := by decide +kernel
theorem dX4_seatBehind_55 : decode cX4_seatBehind 55 = .ok (.iload 7, 2) := by decide +kernel
theorem dX4_seatBehind_57 : decode cX4_seatBehind 57 = .ok (.ishr, 1) := by decide +kernel
theorem dX4_seatBehind_58 : decode cX4_seatBehind 58 = .ok (.iconst 1, 1) := by decide +kernel
theorem dX4_seatBehind_59 : decode cX4_seatBehind 59 = .ok (.iand, 1) := by decide +kernel
theorem dX4_seatBehind_60 : decode cX4_seatBehind 60 = .ok (.ifCond .ne 21, 3) := by decide +kernel
theorem dX4_seatBehind_63 : decode cX4_seatBehind 63 = .ok (.iload 6, 2) := by decide +kernel
theorem dX4_seatBehind_65 : decode cX4_seatBehind 65 = .ok (.aload_n 0, 1) := by decide +kernel
theorem dX4_seatBehind_66 : decode cX4_seatBehind 66 = .ok (.getfield 18, 3) := by decide +kernel
theorem dX4_seatBehind_69 : decode cX4_seatBehind 69 = .ok (.iload 5, 2) := by decide +kernel
theorem dX4_seatBehind_71 : decode cX4_seatBehind 71 = .ok (.bipush 8, 2) := by decide +kernel
theorem dX4_seatBehind_73 : decode cX4_seatBehind 73 = .ok (.imul, 1) := by decide +kernel
theorem dX4_seatBehind_74 : decode cX4_seatBehind 74 = .ok (.iload 7, 2) := by decide +kernel
theorem dX4_seatBehind_76 : decode cX4_seatBehind 76 = .ok (.iadd, 1) := by decide +kernel
theorem dX4_seatBehind_77 : decode cX4_seatBehind 77 = .ok (.iaload, 1) := by decide +kernel
theorem dX4_seatBehind_78 : decode cX4_seatBehind 78 = .ok (.iadd, 1) := by decide +kernel
theorem dX4_seatBehind_79 : decode cX4_seatBehind 79 = .ok (.istore 6, 2) := by decide +kernel
theorem dX4_seatBehind_81 : decode cX4_seatBehind 81 = .ok (.iinc 7 1, 3) := by decide +kernel
theorem dX4_seatBehind_84 : decode cX4_seatBehind 84 = .ok (.goto (-41), 3) := by decide +kernel
theorem dX4_seatBehind_87 : decode cX4_seatBehind 87 = .ok (.iload 6, 2) := by decide +kernel
theorem dX4_seatBehind_89 : decode cX4_seatBehind 89 = .ok (.ireturn, 1) := by decide +kernel
theorem dX4_lastToHear_0 : decode cX4_lastToHear 0 = .ok (.iload_n 1, 1) := by decide +kernel
theorem dX4_lastToHear_1 : decode cX4_lastToHear 1 = .ok (.iconst 0, 1) := by decide +kernel
theorem dX4_lastToHear_2 : decode cX4_lastToHear 2 = .ok (.bipush 11, 2) := by decide +kernel
theorem dX4_lastToHear_4 : decode cX4_lastToHear 4 = .ok (.invokestatic 90, 3) := by decide +kernel
theorem dX4_lastToHear_7 : decode cX4_lastToHear 7 = .ok (.ifCond .ne 5, 3) := by decide +kernel
theorem dX4_lastToHear_10 : decode cX4_lastToHear 10 = .ok (.iconst (-1), 1) := by decide +kernel
theorem dX4_lastToHear_11 : decode cX4_lastToHear 11 = .ok (.ireturn, 1) := by decide +kernel
theorem dX4_lastToHear_12 : decode cX4_lastToHear 12 = .ok (.aload_n 0, 1) := by decide +kernel
theorem dX4_lastToHear_13 : decode cX4_lastToHear 13 = .ok (.getfield 21, 3) := by decide +kernel
theorem dX4_lastToHear_16 : decode cX4_lastToHear 16 = .ok (.iconst (-1), 1) := by decide +kernel
theorem dX4_lastToHear_17 : decode cX4_lastToHear 17 = .ok (.invokestatic 84, 3) := by decide +kernel
theorem dX4_lastToHear_20 : decode cX4_lastToHear 20 = .ok (.aload_n 0, 1) := by decide +kernel
theorem dX4_lastToHear_21 : decode cX4_lastToHear 21 = .ok (.getfield 21, 3) := by decide +kernel
theorem dX4_lastToHear_24 : decode cX4_lastToHear 24 = .ok (.iload_n 1, 1) := by decide +kernel
theorem dX4_lastToHear_25 : decode cX4_lastToHear 25 = .ok (.iconst 0, 1) := by decide +kernel
theorem dX4_lastToHear_26 : decode cX4_lastToHear 26 = .ok (.iastore, 1) := by decide +kernel
theorem dX4_lastToHear_27 : decode cX4_lastToHear 27 = .ok (.iconst 0, 1) := by decide +kernel
theorem dX4_lastToHear_28 : decode cX4_lastToHear 28 = .ok (.istore_n 3, 1) := by decide +kernel
theorem dX4_lastToHear_29 : decode cX4_lastToHear 29 = .ok (.iload_n 3, 1) := by decide +kernel
theorem dX4_lastToHear_30 : decode cX4_lastToHear 30 = .ok (.bipush 12, 2) := by decide +kernel
theorem dX4_lastToHear_32 : decode cX4_lastToHear 32 = .ok (.if_icmp .ge 119, 3) := by decide +kernel
theorem dX4_lastToHear_35 : decode cX4_lastToHear 35 = .ok (.iconst 0, 1) := by decide +kernel
theorem dX4_lastToHear_36 : decode cX4_lastToHear 36 = .ok (.istore 4, 2) := by decide +kernel
theorem dX4_lastToHear_38 : decode cX4_lastToHear 38 = .ok (.iload 4, 2) := by decide +kernel
theorem dX4_lastToHear_40 : decode cX4_lastToHear 40 = .ok (.aload_n 0, 1) := by decide +kernel
theorem dX4_lastToHear_41 : decode cX4_lastToHear 41 = .ok (.getfield 56, 3) := by decide +kernel
theorem dX4_lastToHear_44 : decode cX4_lastToHear 44 = .ok (.getfield 157, 3) := by decide +kernel
theorem dX4_lastToHear_47 : decode cX4_lastToHear 47 = .ok (.invokevirtual 66, 3) := by decide +kernel
theorem dX4_lastToHear_50 : decode cX4_lastToHear 50 = .ok (.if_icmp .ge 95, 3) := by decide +kernel
theorem dX4_lastToHear_53 : decode cX4_lastToHear 53 = .ok (.aload_n 0, 1) := by decide +kernel
theorem dX4_lastToHear_54 : decode cX4_lastToHear 54 = .ok (.aload_n 0, 1) := by decide +kernel
theorem dX4_lastToHear_55 : decode cX4_lastToHear 55 = .ok (.getfield 56, 3) := by decide +kernel
theorem dX4_lastToHear_58 : decode cX4_lastToHear 58 = .ok (.getfield 157, 3) := by decide +kernel
theorem dX4_lastToHear_61 : decode cX4_lastToHear 61 = .ok (.iload 4, 2) := by decide +kernel
theorem dX4_lastToHear_63 : decode cX4_lastToHear 63 = .ok (.iconst 0, 1) := by decide +kernel
theorem dX4_lastToHear_64 : decode cX4_lastToHear 64 = .ok (.invokevirtual 72, 3) := by decide +kernel
theorem dX4_lastToHear_67 : decode cX4_lastToHear 67 = .ok (.aload_n 0, 1) := by decide +kernel
theorem dX4_lastToHear_68 : decode cX4_lastToHear 68 = .ok (.getfield 56, 3) := by decide +kernel
theorem dX4_lastToHear_71 : decode cX4_lastToHear 71 = .ok (.getfield 157, 3) := by decide +kernel
theorem dX4_lastToHear_74 : decode cX4_lastToHear 74 = .ok (.iload 4, 2) := by decide +kernel
theorem dX4_lastToHear_76 : decode cX4_lastToHear 76 = .ok (.iconst 1, 1) := by decide +kernel
theorem dX4_lastToHear_77 : decode cX4_lastToHear 77 = .ok (.invokevirtual 72, 3) := by decide +kernel
theorem dX4_lastToHear_80 : decode cX4_lastToHear 80 = .ok (.aload_n 0, 1) := by decide +kernel
theorem dX4_lastToHear_81 : decode cX4_lastToHear 81 = .ok (.getfield 56, 3) := by decide +kernel
theorem dX4_lastToHear_84 : decode cX4_lastToHear 84 = .ok (.getfield 157, 3) := by decide +kernel
theorem dX4_lastToHear_87 : decode cX4_lastToHear 87 = .ok (.iload 4, 2) := by decide +kernel
theorem dX4_lastToHear_89 : decode cX4_lastToHear 89 = .ok (.iconst 2, 1) := by decide +kernel
theorem dX4_lastToHear_90 : decode cX4_lastToHear 90 = .ok (.invokevirtual 72, 3) := by decide +kernel
theorem dX4_lastToHear_93 : decode cX4_lastToHear 93 = .ok (.invokevirtual 160, 3) := by decide +kernel
theorem dX4_lastToHear_96 : decode cX4_lastToHear 96 = .ok (.aload_n 0, 1) := by decide +kernel
theorem dX4_lastToHear_97 : decode cX4_lastToHear 97 = .ok (.aload_n 0, 1) := by decide +kernel
theorem dX4_lastToHear_98 : decode cX4_lastToHear 98 = .ok (.getfield 56, 3) := by decide +kernel
theorem dX4_lastToHear_101 : decode cX4_lastToHear 101 = .ok (.getfield 157, 3) := by decide +kernel
theorem dX4_lastToHear_104 : decode cX4_lastToHear 104 = .ok (.iload 4, 2) := by decide +kernel
theorem dX4_lastToHear_106 : decode cX4_lastToHear 106 = .ok (.iconst 1, 1) := by decide +kernel
theorem dX4_lastToHear_107 : decode cX4_lastToHear 107 = .ok (.invokevirtual 72, 3) := by decide +kernel
theorem dX4_lastToHear_110 : decode cX4_lastToHear 110 = .ok (.aload_n 0, 1) := by decide +kernel
theorem dX4_lastToHear_111 : decode cX4_lastToHear 111 = .ok (.getfield 56, 3) := by decide +kernel
theorem dX4_lastToHear_114 : decode cX4_lastToHear 114 = .ok (.getfield 157, 3) := by decide +kernel
theorem dX4_lastToHear_117 : decode cX4_lastToHear 117 = .ok (.iload 4, 2) := by decide +kernel
theorem dX4_lastToHear_119 : decode cX4_lastToHear 119 = .ok (.iconst 0, 1) := by decide +kernel
theorem dX4_lastToHear_120 : decode cX4_lastToHear 120 = .ok (.invokevirtual 72, 3) := by decide +kernel
theorem dX4_lastToHear_123 : decode cX4_lastToHear 123 = .ok (.aload_n 0, 1) := by decide +kernel
theorem dX4_lastToHear_124 : decode cX4_lastToHear 124 = .ok (.getfield 56, 3) := by decide +kernel
theorem dX4_lastToHear_127 : decode cX4_lastToHear 127 = .ok (.getfield 157, 3) := by decide +kernel
theorem dX4_lastToHear_130 : decode cX4_lastToHear 130 = .ok (.iload 4, 2) := by decide +kernel
theorem dX4_lastToHear_132 : decode cX4_lastToHear 132 = .ok (.iconst 2, 1) := by decide +kernel
theorem dX4_lastToHear_133 : decode cX4_lastToHear 133 = .ok (.invokevirtual 72, 3) := by decide +kernel
theorem dX4_lastToHear_136 : decode cX4_lastToHear 136 = .ok (.invokevirtual 160, 3) := by decide +kernel
theorem dX4_lastToHear_139 : decode cX4_lastToHear 139 = .ok (.iinc 4 1, 3) := by decide +kernel
theorem dX4_lastToHear_142 : decode cX4_lastToHear 142 = .ok (.goto (-104), 3) := by decide +kernel
theorem dX4_lastToHear_145 : decode cX4_lastToHear 145 = .ok (.iinc 3 1, 3) := by decide +kernel
theorem dX4_lastToHear_148 : decode cX4_lastToHear 148 = .ok (.goto (-119), 3) := by decide +kernel
theorem dX4_lastToHear_151 : decode cX4_lastToHear 151 = .ok (.iload_n 1, 1) := by decide +kernel
theorem dX4_lastToHear_152 : decode cX4_lastToHear 152 = .ok (.istore_n 3, 1) := by decide +kernel
theorem dX4_lastToHear_153 : decode cX4_lastToHear 153 = .ok (.iconst 0, 1) := by decide +kernel
theorem dX4_lastToHear_154 : decode cX4_lastToHear 154 = .ok (.istore 4, 2) := by decide +kernel
theorem dX4_lastToHear_156 : decode cX4_lastToHear 156 = .ok (.iconst 0, 1) := by decide +kernel
theorem dX4_lastToHear_157 : decode cX4_lastToHear 157 = .ok (.istore 5, 2) := by decide +kernel
theorem dX4_lastToHear_159 : decode cX4_lastToHear 159 = .ok (.iload 5, 2) := by decide +kernel
theorem dX4_lastToHear_161 : decode cX4_lastToHear 161 = .ok (.bipush 12, 2) := by decide +kernel
theorem dX4_lastToHear_163 : decode cX4_lastToHear 163 = .ok (.if_icmp .ge 42, 3) := by decide +kernel
theorem dX4_lastToHear_166 : decode cX4_lastToHear 166 = .ok (.aload_n 0, 1) := by decide +kernel
theorem dX4_lastToHear_167 : decode cX4_lastToHear 167 = .ok (.getfield 21, 3) := by decide +kernel
theorem dX4_lastToHear_170 : decode cX4_lastToHear 170 = .ok (.iload 5, 2) := by decide +kernel
theorem dX4_lastToHear_172 : decode cX4_lastToHear 172 = .ok (.iaload, 1) := by decide +kernel
theorem dX4_lastToHear_173 : decode cX4_lastToHear 173 = .ok (.iconst (-1), 1) := by decide +kernel
theorem dX4_lastToHear_174 : decode cX4_lastToHear 174 = .ok (.if_icmp .eq 6, 3) := by decide +kernel
theorem dX4_lastToHear_177 : decode cX4_lastToHear 177 = .ok (.iinc 4 1, 3) := by decide +kernel
theorem dX4_lastToHear_180 : decode cX4_lastToHear 180 = .ok (.aload_n 0, 1) := by decide +kernel
theorem dX4_lastToHear_181 : decode cX4_lastToHear 181 = .ok (.getfield 21, 3) := by decide +kernel
theorem dX4_lastToHear_184 : decode cX4_lastToHear 184 = .ok (.iload 5, 2) := by decide +kernel
theorem dX4_lastToHear_186 : decode cX4_lastToHear 186 = .ok (.iaload, 1) := by decide +kernel
theorem dX4_lastToHear_187 : decode cX4_lastToHear 187 = .ok (.aload_n 0, 1) := by decide +kernel
theorem dX4_lastToHear_188 : decode cX4_lastToHear 188 = .ok (.getfield 21, 3) := by decide +kernel
theorem dX4_lastToHear_191 : decode cX4_lastToHear 191 = .ok (.iload_n 3, 1) := by decide +kernel
theorem dX4_lastToHear_192 : decode cX4_lastToHear 192 = .ok (.iaload, 1) := by decide +kernel
theorem dX4_lastToHear_193 : decode cX4_lastToHear 193 = .ok (.if_icmp .le 6, 3) := by decide +kernel
theorem dX4_lastToHear_196 : decode cX4_lastToHear 196 = .ok (.iload 5, 2) := by decide +kernel
theorem dX4_lastToHear_198 : decode cX4_lastToHear 198 = .ok (.istore_n 3, 1) := by decide +kernel
theorem dX4_lastToHear_199 : decode cX4_lastToHear 199 = .ok (.iinc 5 1, 3) := by decide +kernel
theorem dX4_lastToHear_202 : decode cX4_lastToHear 202 = .ok (.goto (-43), 3) := by decide +kernel
theorem dX4_lastToHear_205 : decode cX4_lastToHear 205 = .ok (.iload_n 2, 1) := by decide +kernel
theorem dX4_lastToHear_206 : decode cX4_lastToHear 206 = .ok (.ifCond .ne 5, 3) := by decide +kernel
theorem dX4_lastToHear_209 : decode cX4_lastToHear 209 = .ok (.iload_n 3, 1) := by decide +kernel
theorem dX4_lastToHear_210 : decode cX4_lastToHear 210 = .ok (.ireturn, 1) := by decide +kernel
theorem dX4_lastToHear_211 : decode cX4_lastToHear 211 = .ok (.iload_n 2, 1) := by decide +kernel
theorem dX4_lastToHear_212 : decode cX4_lastToHear 212 = .ok (.iconst 1, 1) := by decide +kernel
theorem dX4_lastToHear_213 : decode cX4_lastToHear 213 = .ok (.if_icmp .ne 12, 3) := by decide +kernel
theorem dX4_lastToHear_216 : decode cX4_lastToHear 216 = .ok (.aload_n 0, 1) := by decide +kernel
theorem dX4_lastToHear_217 : decode cX4_lastToHear 217 = .ok (.getfield 21, 3) := by decide +kernel
theorem dX4_lastToHear_220 : decode cX4_lastToHear 220 = .ok (.iload_n 3, 1) := by decide +kernel
theorem dX4_lastToHear_221 : decode cX4_lastToHear 221 = .ok (.iaload, 1) := by decide +kernel
theorem dX4_lastToHear_222 : decode cX4_lastToHear 222 = .ok (.goto 5, 3) := by decide +kernel
theorem dX4_lastToHear_225 : decode cX4_lastToHear 225 = .ok (.iload 4, 2) := by decide +kernel
theorem dX4_lastToHear_227 : decode cX4_lastToHear 227 = .ok (.ireturn, 1) := by decide +kernel
theorem dX4_walk_0 : decode cX4_walk 0 = .ok (.iload_n 1, 1) := by decide +kernel
theorem dX4_walk_1 : decode cX4_walk 1 = .ok (.iconst 0, 1) := by decide +kernel
theorem dX4_walk_2 : decode cX4_walk 2 = .ok (.bipush 11, 2) := by decide +kernel
theorem dX4_walk_4 : decode cX4_walk 4 = .ok (.invokestatic 90, 3) := by decide +kernel
theorem dX4_walk_7 : decode cX4_walk 7 = .ok (.ifCond .eq 13, 3) := by decide +kernel
theorem dX4_walk_10 : decode cX4_walk 10 = .ok (.iload_n 2, 1) := by decide +kernel
theorem dX4_walk_11 : decode cX4_walk 11 = .ok (.iconst 0, 1) := by decide +kernel
theorem dX4_walk_12 : decode cX4_walk 12 = .ok (.bipush 11, 2) := by decide +kernel
theorem dX4_walk_14 : decode cX4_walk 14 = .ok (.invokestatic 90, 3) := by decide +kernel
theorem dX4_walk_17 : decode cX4_walk 17 = .ok (.ifCond .ne 4, 3) := by decide +kernel
theorem dX4_walk_20 : decode cX4_walk 20 = .ok (.return_, 1) := by decide +kernel
theorem dX4_walk_21 : decode cX4_walk 21 = .ok (.aload_n 0, 1) := by decide +kernel
theorem dX4_walk_22 : decode cX4_walk 22 = .ok (.getfield 21, 3) := by decide +kernel
theorem dX4_walk_25 : decode cX4_walk 25 = .ok (.iload_n 1, 1) := by decide +kernel
theorem dX4_walk_26 : decode cX4_walk 26 = .ok (.iaload, 1) := by decide +kernel
theorem dX4_walk_27 : decode cX4_walk 27 = .ok (.iconst (-1), 1) := by decide +kernel
theorem dX4_walk_28 : decode cX4_walk 28 = .ok (.if_icmp .ne 4, 3) := by decide +kernel
theorem dX4_walk_31 : decode cX4_walk 31 = .ok (.return_, 1) := by decide +kernel
theorem dX4_walk_32 : decode cX4_walk 32 = .ok (.aload_n 0, 1) := by decide +kernel
theorem dX4_walk_33 : decode cX4_walk 33 = .ok (.getfield 21, 3) := by decide +kernel
theorem dX4_walk_36 : decode cX4_walk 36 = .ok (.iload_n 1, 1) := by decide +kernel
theorem dX4_walk_37 : decode cX4_walk 37 = .ok (.iaload, 1) := by decide +kernel
theorem dX4_walk_38 : decode cX4_walk 38 = .ok (.iload_n 3, 1) := by decide +kernel
theorem dX4_walk_39 : decode cX4_walk 39 = .ok (.iadd, 1) := by decide +kernel
theorem dX4_walk_40 : decode cX4_walk 40 = .ok (.istore 4, 2) := by decide +kernel
theorem dX4_walk_42 : decode cX4_walk 42 = .ok (.aload_n 0, 1) := by decide +kernel
theorem dX4_walk_43 : decode cX4_walk 43 = .ok (.getfield 21, 3) := by decide +kernel
theorem dX4_walk_46 : decode cX4_walk 46 = .ok (.iload_n 2, 1) := by decide +kernel
theorem dX4_walk_47 : decode cX4_walk 47 = .ok (.iaload, 1) := by decide +kernel
theorem dX4_walk_48 : decode cX4_walk 48 = .ok (.iconst (-1), 1) := by decide +kernel
theorem dX4_walk_49 : decode cX4_walk 49 = .ok (.if_icmp .eq 14, 3) := by decide +kernel
theorem dX4_walk_52 : decode cX4_walk 52 = .ok (.iload 4, 2) := by decide +kernel
theorem dX4_walk_54 : decode cX4_walk 54 = .ok (.aload_n 0, 1) := by decide +kernel
theorem dX4_walk_55 : decode cX4_walk 55 = .ok (.getfield 21, 3) := by decide +kernel
theorem dX4_walk_58 : decode cX4_walk 58 = .ok (.iload_n 2, 1) := by decide +kernel
theorem dX4_walk_59 : decode cX4_walk 59 = .ok (.iaload, 1) := by decide +kernel
theorem dX4_walk_60 : decode cX4_walk 60 = .ok (.if_icmp .ge 11, 3) := by decide +kernel
theorem dX4_walk_63 : decode cX4_walk 63 = .ok (.aload_n 0, 1) := by decide +kernel
theorem dX4_walk_64 : decode cX4_walk 64 = .ok (.getfield 21, 3) := by decide +kernel
theorem dX4_walk_67 : decode cX4_walk 67 = .ok (.iload_n 2, 1) := by decide +kernel
theorem dX4_walk_68 : decode cX4_walk 68 = .ok (.iload 4, 2) := by decide +kernel
theorem dX4_walk_70 : decode cX4_walk 70 = .ok (.iastore, 1) := by decide +kernel
theorem dX4_walk_71 : decode cX4_walk 71 = .ok (.return_, 1) := by decide +kernel
theorem dX4_waysUp_0 : decode cX4_waysUp 0 = .ok (.iload_n 1, 1) := by decide +kernel
theorem dX4_waysUp_1 : decode cX4_waysUp 1 = .ok (.iconst 0, 1) := by decide +kernel
theorem dX4_waysUp_2 : decode cX4_waysUp 2 = .ok (.bipush 40, 2) := by decide +kernel
theorem dX4_waysUp_4 : decode cX4_waysUp 4 = .ok (.invokestatic 90, 3) := by decide +kernel
theorem dX4_waysUp_7 : decode cX4_waysUp 7 = .ok (.ifCond .ne 5, 3) := by decide +kernel
theorem dX4_waysUp_10 : decode cX4_waysUp 10 = .ok (.iconst (-1), 1) := by decide +kernel
theorem dX4_waysUp_11 : decode cX4_waysUp 11 = .ok (.ireturn, 1) := by decide +kernel
theorem dX4_waysUp_12 : decode cX4_waysUp 12 = .ok (.aload_n 0, 1) := by decide +kernel
theorem dX4_waysUp_13 : decode cX4_waysUp 13 = .ok (.getfield 27, 3) := by decide +kernel
theorem dX4_waysUp_16 : decode cX4_waysUp 16 = .ok (.iconst 0, 1) := by decide +kernel
theorem dX4_waysUp_17 : decode cX4_waysUp 17 = .ok (.lconst 1, 1) := by decide +kernel
theorem dX4_waysUp_18 : decode cX4_waysUp 18 = .ok (.lastore, 1) := by decide +kernel
theorem dX4_waysUp_19 : decode cX4_waysUp 19 = .ok (.iconst 1, 1) := by decide +kernel
theorem dX4_waysUp_20 : decode cX4_waysUp 20 = .ok (.istore_n 3, 1) := by decide +kernel
theorem dX4_waysUp_21 : decode cX4_waysUp 21 = .ok (.iload_n 3, 1) := by decide +kernel
theorem dX4_waysUp_22 : decode cX4_waysUp 22 = .ok (.iload_n 1, 1) := by decide +kernel
theorem dX4_waysUp_23 : decode cX4_waysUp 23 = .ok (.if_icmp .gt 68, 3) := by decide +kernel
theorem dX4_waysUp_26 : decode cX4_waysUp 26 = .ok (.lconst 0, 1) := by decide +kernel
theorem dX4_waysUp_27 : decode cX4_waysUp 27 = .ok (.lstore 4, 2) := by decide +kernel
theorem dX4_waysUp_29 : decode cX4_waysUp 29 = .ok (.iconst 1, 1) := by decide +kernel
theorem dX4_waysUp_30 : decode cX4_waysUp 30 = .ok (.istore 6, 2) := by decide +kernel
theorem dX4_waysUp_32 : decode cX4_waysUp 32 = .ok (.iload 6, 2) := by decide +kernel
theorem dX4_waysUp_34 : decode cX4_waysUp 34 = .ok (.iconst 5, 1) := by decide +kernel
theorem dX4_waysUp_35 : decode cX4_waysUp 35 = .ok (.if_icmp .gt 38, 3) := by decide +kernel
theorem dX4_waysUp_38 : decode cX4_waysUp 38 = .ok (.iload_n 3, 1) := by decide +kernel
theorem dX4_waysUp_39 : decode cX4_waysUp 39 = .ok (.iload 6, 2) := by decide +kernel
theorem dX4_waysUp_41 : decode cX4_waysUp 41 = .ok (.if_icmp .lt 26, 3) := by decide +kernel
theorem dX4_waysUp_44 : decode cX4_waysUp 44 = .ok (.iload_n 2, 1) := by decide +kernel
theorem dX4_waysUp_45 : decode cX4_waysUp 45 = .ok (.iload 6, 2) := by decide +kernel
theorem dX4_waysUp_47 : decode cX4_waysUp 47 = .ok (.invokestatic 164, 3) := by decide +kernel
theorem dX4_waysUp_50 : decode cX4_waysUp 50 = .ok (.ifCond .eq 17, 3) := by decide +kernel
theorem dX4_waysUp_53 : decode cX4_waysUp 53 = .ok (.lload 4, 2) := by decide +kernel
theorem dX4_waysUp_55 : decode cX4_waysUp 55 = .ok (.aload_n 0, 1) := by decide +kernel
theorem dX4_waysUp_56 : decode cX4_waysUp 56 = .ok (.getfield 27, 3) := by decide +kernel
theorem dX4_waysUp_59 : decode cX4_waysUp 59 = .ok (.iload_n 3, 1) := by decide +kernel
theorem dX4_waysUp_60 : decode cX4_waysUp 60 = .ok (.iload 6, 2) := by decide +kernel
theorem dX4_waysUp_62 : decode cX4_waysUp 62 = .ok (.isub, 1) := by decide +kernel
theorem dX4_waysUp_63 : decode cX4_waysUp 63 = .ok (.laload, 1) := by decide +kernel
theorem dX4_waysUp_64 : decode cX4_waysUp 64 = .ok (.ladd, 1) := by decide +kernel
theorem dX4_waysUp_65 : decode cX4_waysUp 65 = .ok (.lstore 4, 2) := by decide +kernel
theorem dX4_waysUp_67 : decode cX4_waysUp 67 = .ok (.iinc 6 1, 3) := by decide +kernel
theorem dX4_waysUp_70 : decode cX4_waysUp 70 = .ok (.goto (-38), 3) := by decide +kernel
theorem dX4_waysUp_73 : decode cX4_waysUp 73 = .ok (.aload_n 0, 1) := by decide +kernel
theorem dX4_waysUp_74 : decode cX4_waysUp 74 = .ok (.getfield 27, 3) := by decide +kernel
theorem dX4_waysUp_77 : decode cX4_waysUp 77 = .ok (.iload_n 3, 1) := by decide +kernel
theorem dX4_waysUp_78 : decode cX4_waysUp 78 = .ok (.lload 4, 2) := by decide +kernel
theorem dX4_waysUp_80 : decode cX4_waysUp 80 = .ok (.ldc2_w 113, 3) := by decide +kernel
theorem dX4_waysUp_83 : decode cX4_waysUp 83 = .ok (.lrem, 1) := by decide +kernel
theorem dX4_waysUp_84 : decode cX4_waysUp 84 = .ok (.lastore, 1) := by decide +kernel
theorem dX4_waysUp_85 : decode cX4_waysUp 85 = .ok (.iinc 3 1, 3) := by decide +kernel
theorem dX4_waysUp_88 : decode cX4_waysUp 88 = .ok (.goto (-67), 3) := by decide +kernel
theorem dX4_waysUp_91 : decode cX4_waysUp 91 = .ok (.aload_n 0, 1) := by decide +kernel
theorem dX4_waysUp_92 : decode cX4_waysUp 92 = .ok (.getfield 27, 3) := by decide +kernel
theorem dX4_waysUp_95 : decode cX4_waysUp 95 = .ok (.iload_n 1, 1) := by decide +kernel
theorem dX4_waysUp_96 : decode cX4_waysUp 96 = .ok (.laload, 1) := by decide +kernel
theorem dX4_waysUp_97 : decode cX4_waysUp 97 = .ok (.l2i, 1) := by decide +kernel
theorem dX4_waysUp_98 : decode cX4_waysUp 98 = .ok (.ireturn, 1) := by decide +kernel
theorem dX4_hasPace_0 : decode cX4_hasPace 0 = .ok (.iload_n 0, 1) := by decide +kernel
theorem dX4_hasPace_1 : decode cX4_hasPace 1 = .ok (.iload_n 1, 1) := by decide +kernel
theorem dX4_hasPace_2 : decode cX4_hasPace 2 = .ok (.iconst 1, 1) := by decide +kernel
theorem dX4_hasPace_3 : decode cX4_hasPace 3 = .ok (.isub, 1) := by decide +kernel
theorem dX4_hasPace_4 : decode cX4_hasPace 4 = .ok (.ishr, 1) := by decide +kernel
theorem dX4_hasPace_5 : decode cX4_hasPace 5 = .ok (.iconst 1, 1) := by decide +kernel
theorem dX4_hasPace_6 : decode cX4_hasPace 6 = .ok (.iand, 1) := by decide +kernel
theorem dX4_hasPace_7 : decode cX4_hasPace 7 = .ok (.iconst 1, 1) := by decide +kernel
theorem dX4_hasPace_8 : decode cX4_hasPace 8 = .ok (.if_icmp .ne 7, 3) := by decide +kernel
theorem dX4_hasPace_11 : decode cX4_hasPace 11 = .ok (.iconst 1, 1) := by decide +kernel
theorem dX4_hasPace_12 : decode cX4_hasPace 12 = .ok (.goto 4, 3) := by decide +kernel
theorem dX4_hasPace_15 : decode cX4_hasPace 15 = .ok (.iconst 0, 1) := by decide +kernel
theorem dX4_hasPace_16 : decode cX4_hasPace 16 = .ok (.ireturn, 1) := by decide +kernel
theorem dX4_waysUpAlike_0 : decode cX4_waysUpAlike 0 = .ok (.aload_n 0, 1) := by decide +kernel
theorem dX4_waysUpAlike_1 : decode cX4_waysUpAlike 1 = .ok (.iload_n 1, 1) := by decide +kernel
theorem dX4_waysUpAlike_2 : decode cX4_waysUpAlike 2 = .ok (.iload_n 2, 1) := by decide +kernel
theorem dX4_waysUpAlike_3 : decode cX4_waysUpAlike 3 = .ok (.invokevirtual 168, 3) := by decide +kernel
theorem dX4_waysUpAlike_6 : decode cX4_waysUpAlike 6 = .ok (.istore_n 3, 1) := by decide +kernel
theorem dX4_waysUpAlike_7 : decode cX4_waysUpAlike 7 = .ok (.iload_n 1, 1) := by decide +kernel
theorem dX4_waysUpAlike_8 : decode cX4_waysUpAlike 8 = .ok (.ifCond .le 9, 3) := by decide +kernel
theorem dX4_waysUpAlike_11 : decode cX4_waysUpAlike 11 = .ok (.iload_n 1, 1) := by decide +kernel
theorem dX4_waysUpAlike_12 : decode cX4_waysUpAlike 12 = .ok (.bipush 40, 2) := by decide +kernel
theorem dX4_waysUpAlike_14 : decode cX4_waysUpAlike 14 = .ok (.if_icmp .le 5, 3) := by decide +kernel
theorem dX4_waysUpAlike_17 : decode cX4_waysUpAlike 17 = .ok (.iload_n 3, 1) := by decide +kernel
theorem dX4_waysUpAlike_18 : decode cX4_waysUpAlike 18 = .ok (.ireturn, 1) := by decide +kernel
theorem dX4_waysUpAlike_19 : decode cX4_waysUpAlike 19 = .ok (.lconst 0, 1) := by decide +kernel
theorem dX4_waysUpAlike_20 : decode cX4_waysUpAlike 20 = .ok (.lstore 4, 2) := by decide +kernel
theorem dX4_waysUpAlike_22 : decode cX4_waysUpAlike 22 = .ok (.iconst 1, 1) := by decide +kernel
theorem dX4_waysUpAlike_23 : decode cX4_waysUpAlike 23 = .ok (.istore 6, 2) := by decide +kernel
theorem dX4_waysUpAlike_25 : decode cX4_waysUpAlike 25 = .ok (.iload 6, 2) := by decide +kernel
theorem dX4_waysUpAlike_27 : decode cX4_waysUpAlike 27 = .ok (.iconst 5, 1) := by decide +kernel
theorem dX4_waysUpAlike_28 : decode cX4_waysUpAlike 28 = .ok (.if_icmp .gt 57, 3) := by decide +kernel
theorem dX4_waysUpAlike_31 : decode cX4_waysUpAlike 31 = .ok (.iload_n 2, 1) := by decide +kernel
theorem dX4_waysUpAlike_32 : decode cX4_waysUpAlike 32 = .ok (.iload 6, 2) := by decide +kernel
theorem dX4_waysUpAlike_34 : decode cX4_waysUpAlike 34 = .ok (.invokestatic 164, 3) := by decide +kernel
theorem dX4_waysUpAlike_37 : decode cX4_waysUpAlike 37 = .ok (.ifCond .ne 6, 3) := by decide +kernel
theorem dX4_waysUpAlike_40 : decode cX4_waysUpAlike 40 = .ok (.goto 39, 3) := by decide +kernel
theorem dX4_waysUpAlike_43 : decode cX4_waysUpAlike 43 = .ok (.iload_n 1, 1) := by decide +kernel
theorem dX4_waysUpAlike_44 : decode cX4_waysUpAlike 44 = .ok (.iload 6, 2) := by decide +kernel
theorem dX4_waysUpAlike_46 : decode cX4_waysUpAlike 46 = .ok (.if_icmp .ne 9, 3) := by decide +kernel
theorem dX4_waysUpAlike_49 : decode cX4_waysUpAlike 49 = .ok (.lload 4, 2) := by decide +kernel
theorem dX4_waysUpAlike_51 : decode cX4_waysUpAlike 51 = .ok (.lconst 1, 1) := by decide +kernel
theorem dX4_waysUpAlike_52 : decode cX4_waysUpAlike 52 = .ok (.ladd, 1) := by decide +kernel
theorem dX4_waysUpAlike_53 : decode cX4_waysUpAlike 53 = .ok (.lstore 4, 2) := by decide +kernel
theorem dX4_waysUpAlike_55 : decode cX4_waysUpAlike 55 = .ok (.iload_n 1, 1) := by decide +kernel
theorem dX4_waysUpAlike_56 : decode cX4_waysUpAlike 56 = .ok (.iconst 2, 1) := by decide +kernel
theorem dX4_waysUpAlike_57 : decode cX4_waysUpAlike 57 = .ok (.iload 6, 2) := by decide +kernel
theorem dX4_waysUpAlike_59 : decode cX4_waysUpAlike 59 = .ok (.imul, 1) := by decide +kernel
theorem dX4_waysUpAlike_60 : decode cX4_waysUpAlike 60 = .ok (.if_icmp .lt 19, 3) := by decide +kernel
theorem dX4_waysUpAlike_63 : decode cX4_waysUpAlike 63 = .ok (.lload 4, 2) := by decide +kernel
theorem dX4_waysUpAlike_65 : decode cX4_waysUpAlike 65 = .ok (.aload_n 0, 1) := by decide +kernel
theorem dX4_waysUpAlike_66 : decode cX4_waysUpAlike 66 = .ok (.getfield 27, 3) := by decide +kernel
theorem dX4_waysUpAlike_69 : decode cX4_waysUpAlike 69 = .ok (.iload_n 1, 1) := by decide +kernel
theorem dX4_waysUpAlike_70 : decode cX4_waysUpAlike 70 = .ok (.iconst 2, 1) := by decide +kernel
theorem dX4_waysUpAlike_71 : decode cX4_waysUpAlike 71 = .ok (.iload 6, 2) := by decide +kernel
theorem dX4_waysUpAlike_73 : decode cX4_waysUpAlike 73 = .ok (.imul, 1) := by decide +kernel
theorem dX4_waysUpAlike_74 : decode cX4_waysUpAlike 74 = .ok (.isub, 1) := by decide +kernel
theorem dX4_waysUpAlike_75 : decode cX4_waysUpAlike 75 = .ok (.laload, 1) := by decide +kernel
theorem dX4_waysUpAlike_76 : decode cX4_waysUpAlike 76 = .ok (.ladd, 1) := by decide +kernel
theorem dX4_waysUpAlike_77 : decode cX4_waysUpAlike 77 = .ok (.lstore 4, 2) := by decide +kernel
theorem dX4_waysUpAlike_79 : decode cX4_waysUpAlike 79 = .ok (.iinc 6 1, 3) := by decide +kernel
theorem dX4_waysUpAlike_82 : decode cX4_waysUpAlike 82 = .ok (.goto (-57), 3) := by decide +kernel
theorem dX4_waysUpAlike_85 : decode cX4_waysUpAlike 85 = .ok (.lload 4, 2) := by decide +kernel
theorem dX4_waysUpAlike_87 : decode cX4_waysUpAlike 87 = .ok (.ldc2_w 113, 3) := by decide +kernel
theorem dX4_waysUpAlike_90 : decode cX4_waysUpAlike 90 = .ok (.lrem, 1) := by decide +kernel
theorem dX4_waysUpAlike_91 : decode cX4_waysUpAlike 91 = .ok (.l2i, 1) := by decide +kernel
theorem dX4_waysUpAlike_92 : decode cX4_waysUpAlike 92 = .ok (.ireturn, 1) := by decide +kernel
theorem dX4_fewestPourings_0 : decode cX4_fewestPourings 0 = .ok (.aload_n 0, 1) := by decide +kernel
theorem dX4_fewestPourings_1 : decode cX4_fewestPourings 1 = .ok (.getfield 43, 3) := by decide +kernel
theorem dX4_fewestPourings_4 : decode cX4_fewestPourings 4 = .ok (.iconst 0, 1) := by decide +kernel
theorem dX4_fewestPourings_5 : decode cX4_fewestPourings 5 = .ok (.iload_n 1, 1) := by decide +kernel
theorem dX4_fewestPourings_6 : decode cX4_fewestPourings 6 = .ok (.iastore, 1) := by decide +kernel
theorem dX4_fewestPourings_7 : decode cX4_fewestPourings 7 = .ok (.aload_n 0, 1) := by decide +kernel
theorem dX4_fewestPourings_8 : decode cX4_fewestPourings 8 = .ok (.getfield 43, 3) := by decide +kernel
theorem dX4_fewestPourings_11 : decode cX4_fewestPourings 11 = .ok (.iconst 1, 1) := by decide +kernel
theorem dX4_fewestPourings_12 : decode cX4_fewestPourings 12 = .ok (.iload_n 2, 1) := by decide +kernel
theorem dX4_fewestPourings_13 : decode cX4_fewestPourings 13 = .ok (.iastore, 1) := by decide +kernel
theorem dX4_fewestPourings_14 : decode cX4_fewestPourings 14 = .ok (.aload_n 0, 1) := by decide +kernel
theorem dX4_fewestPourings_15 : decode cX4_fewestPourings 15 = .ok (.getfield 43, 3) := by decide +kernel
theorem dX4_fewestPourings_18 : decode cX4_fewestPourings 18 = .ok (.iconst 2, 1) := by decide +kernel
theorem dX4_fewestPourings_19 : decode cX4_fewestPourings 19 = .ok (.iload_n 3, 1) := by decide +kernel
theorem dX4_fewestPourings_20 : decode cX4_fewestPourings 20 = .ok (.iastore, 1) := by decide +kernel
theorem dX4_fewestPourings_21 : decode cX4_fewestPourings 21 = .ok (.aload_n 0, 1) := by decide +kernel
theorem dX4_fewestPourings_22 : decode cX4_fewestPourings 22 = .ok (.getfield 34, 3) := by decide +kernel
theorem dX4_fewestPourings_25 : decode cX4_fewestPourings 25 = .ok (.iconst (-1), 1) := by decide +kernel
theorem dX4_fewestPourings_26 : decode cX4_fewestPourings 26 = .ok (.invokestatic 84, 3) := by decide +kernel
theorem dX4_fewestPourings_29 : decode cX4_fewestPourings 29 = .ok (.aload_n 0, 1) := by decide +kernel
theorem dX4_fewestPourings_30 : decode cX4_fewestPourings 30 = .ok (.iconst 0, 1) := by decide +kernel
theorem dX4_fewestPourings_31 : decode cX4_fewestPourings 31 = .ok (.putfield 52, 3) := by decide +kernel
theorem dX4_fewestPourings_34 : decode cX4_fewestPourings 34 = .ok (.aload_n 0, 1) := by decide +kernel
theorem dX4_fewestPourings_35 : decode cX4_fewestPourings 35 = .ok (.iconst 0, 1) := by decide +kernel
theorem dX4_fewestPourings_36 : decode cX4_fewestPourings 36 = .ok (.iconst 0, 1) := by decide +kernel
theorem dX4_fewestPourings_37 : decode cX4_fewestPourings 37 = .ok (.invokevirtual 171, 3) := by decide +kernel
theorem dX4_fewestPourings_40 : decode cX4_fewestPourings 40 = .ok (.iconst 0, 1) := by decide +kernel
theorem dX4_fewestPourings_41 : decode cX4_fewestPourings 41 = .ok (.istore 5, 2) := by decide +kernel
theorem dX4_fewestPourings_43 : decode cX4_fewestPourings 43 = .ok (.iload 5, 2) := by decide +kernel
theorem dX4_fewestPourings_45 : decode cX4_fewestPourings 45 = .ok (.aload_n 0, 1) := by decide +kernel
theorem dX4_fewestPourings_46 : decode cX4_fewestPourings 46 = .ok (.getfield 52, 3) := by decide +kernel
theorem dX4_fewestPourings_49 : decode cX4_fewestPourings 49 = .ok (.if_icmp .ge 141, 3) := by decide +kernel
theorem dX4_fewestPourings_52 : decode cX4_fewestPourings 52 = .ok (.iload 5, 2) := by decide +kernel
theorem dX4_fewestPourings_54 : decode cX4_fewestPourings 54 = .ok (.aload_n 0, 1) := by decide +kernel
theorem dX4_fewestPourings_55 : decode cX4_fewestPourings 55 = .ok (.getfield 37, 3) := by decide +kernel
theorem dX4_fewestPourings_58 : decode cX4_fewestPourings 58 = .ok (.arraylength, 1) := by decide +kernel
theorem dX4_fewestPourings_59 : decode cX4_fewestPourings 59 = .ok (.if_icmp .ge 131, 3) := by decide +kernel
theorem dX4_fewestPourings_62 : decode cX4_fewestPourings 62 = .ok (.aload_n 0, 1) := by decide +kernel
theorem dX4_fewestPourings_63 : decode cX4_fewestPourings 63 = .ok (.getfield 37, 3) := by decide +kernel
theorem dX4_fewestPourings_66 : decode cX4_fewestPourings 66 = .ok (.iload 5, 2) := by decide +kernel
theorem dX4_fewestPourings_68 : decode cX4_fewestPourings 68 = .ok (.iaload, 1) := by decide +kernel
theorem dX4_fewestPourings_69 : decode cX4_fewestPourings 69 = .ok (.istore 6, 2) := by decide +kernel
theorem dX4_fewestPourings_71 : decode cX4_fewestPourings 71 = .ok (.iload 6, 2) := by decide +kernel
theorem dX4_fewestPourings_73 : decode cX4_fewestPourings 73 = .ok (.iconst 0, 1) := by decide +kernel
theorem dX4_fewestPourings_74 : decode cX4_fewestPourings 74 = .ok (.aload_n 0, 1) := by decide +kernel
theorem dX4_fewestPourings_75 : decode cX4_fewestPourings 75 = .ok (.getfield 34, 3) := by decide +kernel
theorem dX4_fewestPourings_78 : decode cX4_fewestPourings 78 = .ok (.arraylength, 1) := by decide +kernel
theorem dX4_fewestPourings_79 : decode cX4_fewestPourings 79 = .ok (.iconst 1, 1) := by decide +kernel
theorem dX4_fewestPourings_80 : decode cX4_fewestPourings 80 = .ok (.isub, 1) := by decide +kernel
theorem dX4_fewestPourings_81 : decode cX4_fewestPourings 81 = .ok (.invokestatic 90, 3) := by decide +kernel
theorem dX4_fewestPourings_84 : decode cX4_fewestPourings 84 = .ok (.ifCond .ne 6, 3) := by decide +kernel
theorem dX4_fewestPourings_87 : decode cX4_fewestPourings 87 = .ok (.goto 97, 3) := by decide +kernel
theorem dX4_fewestPourings_90 : decode cX4_fewestPourings 90 = .ok (.aload_n 0, 1) := by decide +kernel
theorem dX4_fewestPourings_91 : decode cX4_fewestPourings 91 = .ok (.iload 6, 2) := by decide +kernel
theorem dX4_fewestPourings_93 : decode cX4_fewestPourings 93 = .ok (.invokevirtual 175, 3) := by decide +kernel
theorem dX4_fewestPourings_96 : decode cX4_fewestPourings 96 = .ok (.aload_n 0, 1) := by decide +kernel
theorem dX4_fewestPourings_97 : decode cX4_fewestPourings 97 = .ok (.getfield 40, 3) := by decide +kernel
theorem dX4_fewestPourings_100 : decode cX4_fewestPourings 100 = .ok (.iconst 0, 1) := by decide +kernel
theorem dX4_fewestPourings_101 : decode cX4_fewestPourings 101 = .ok (.iaload, 1) := by decide +kernel
theorem dX4_fewestPourings_102 : decode cX4_fewestPourings 102 = .ok (.iload 4, 2) := by decide +kernel
theorem dX4_fewestPourings_104 : decode cX4_fewestPourings 104 = .ok (.if_icmp .eq 25, 3) := by decide +kernel
theorem dX4_fewestPourings_107 : decode cX4_fewestPourings 107 = .ok (.aload_n 0, 1) := by decide +kernel
theorem dX4_fewestPourings_108 : decode cX4_fewestPourings 108 = .ok (.getfield 40, 3) := by decide +kernel
theorem dX4_fewestPourings_111 : decode cX4_fewestPourings 111 = .ok (.iconst 1, 1) := by decide +kernel
theorem dX4_fewestPourings_112 : decode cX4_fewestPourings 112 = .ok (.iaload, 1) := by decide +kernel
theorem dX4_fewestPourings_113 : decode cX4_fewestPourings 113 = .ok (.iload 4, 2) := by decide +kernel
theorem dX4_fewestPourings_115 : decode cX4_fewestPourings 115 = .ok (.if_icmp .eq 14, 3) := by decide +kernel
theorem dX4_fewestPourings_118 : decode cX4_fewestPourings 118 = .ok (.aload_n 0, 1) := by decide +kernel
theorem dX4_fewestPourings_119 : decode cX4_fewestPourings 119 = .ok (.getfield 40, 3) := by decide +kernel
theorem dX4_fewestPourings_122 : decode cX4_fewestPourings 122 = .ok (.iconst 2, 1) := by decide +kernel
theorem dX4_fewestPourings_123 : decode cX4_fewestPourings 123 = .ok (.iaload, 1) := by decide +kernel
theorem dX4_fewestPourings_124 : decode cX4_fewestPourings 124 = .ok (.iload 4, 2) := by decide +kernel
theorem dX4_fewestPourings_126 : decode cX4_fewestPourings 126 = .ok (.if_icmp .ne 11, 3) := by decide +kernel
theorem dX4_fewestPourings_129 : decode cX4_fewestPourings 129 = .ok (.aload_n 0, 1) := by decide +kernel
theorem dX4_fewestPourings_130 : decode cX4_fewestPourings 130 = .ok (.getfield 34, 3) := by decide +kernel
theorem dX4_fewestPourings_133 : decode cX4_fewestPourings 133 = .ok (.iload 6, 2) := by decide +kernel
theorem dX4_fewestPourings_135 : decode cX4_fewestPourings 135 = .ok (.iaload, 1) := by decide +kernel
theorem dX4_fewestPourings_136 : decode cX4_fewestPourings 136 = .ok (.ireturn, 1) := by decide +kernel
theorem dX4_fewestPourings_137 : decode cX4_fewestPourings 137 = .ok (.iconst 0, 1) := by decide +kernel
theorem dX4_fewestPourings_138 : decode cX4_fewestPourings 138 = .ok (.istore 7, 2) := by decide +kernel
theorem dX4_fewestPourings_140 : decode cX4_fewestPourings 140 = .ok (.iload 7, 2) := by decide +kernel
theorem dX4_fewestPourings_142 : decode cX4_fewestPourings 142 = .ok (.iconst 3, 1) := by decide +kernel
theorem dX4_fewestPourings_143 : decode cX4_fewestPourings 143 = .ok (.if_icmp .ge 41, 3) := by decide +kernel
theorem dX4_fewestPourings_146 : decode cX4_fewestPourings 146 = .ok (.iconst 0, 1) := by decide +kernel
theorem dX4_fewestPourings_147 : decode cX4_fewestPourings 147 = .ok (.istore 8, 2) := by decide +kernel
theorem dX4_fewestPourings_149 : decode cX4_fewestPourings 149 = .ok (.iload 8, 2) := by decide +kernel
theorem dX4_fewestPourings_151 : decode cX4_fewestPourings 151 = .ok (.iconst 3, 1) := by decide +kernel
theorem dX4_fewestPourings_152 : decode cX4_fewestPourings 152 = .ok (.if_icmp .ge 26, 3) := by decide +kernel
theorem dX4_fewestPourings_155 : decode cX4_fewestPourings 155 = .ok (.iload 7, 2) := by decide +kernel
theorem dX4_fewestPourings_157 : decode cX4_fewestPourings 157 = .ok (.iload 8, 2) := by decide +kernel
theorem dX4_fewestPourings_159 : decode cX4_fewestPourings 159 = .ok (.if_icmp .eq 13, 3) := by decide +kernel
theorem dX4_fewestPourings_162 : decode cX4_fewestPourings 162 = .ok (.aload_n 0, 1) := by decide +kernel
theorem dX4_fewestPourings_163 : decode cX4_fewestPourings 163 = .ok (.iload 6, 2) := by decide +kernel
theorem dX4_fewestPourings_165 : decode cX4_fewestPourings 165 = .ok (.iload 7, 2) := by decide +kernel
theorem dX4_fewestPourings_167 : decode cX4_fewestPourings 167 = .ok (.iload 8, 2) := by decide +kernel
theorem dX4_fewestPourings_169 : decode cX4_fewestPourings 169 = .ok (.invokevirtual 178, 3) := by decide +kernel
theorem dX4_fewestPourings_172 : decode cX4_fewestPourings 172 = .ok (.iinc 8 1, 3) := by decide +kernel
theorem dX4_fewestPourings_175 : decode cX4_fewestPourings 175 = .ok (.goto (-26), 3) := by decide +kernel
theorem dX4_fewestPourings_178 : decode cX4_fewestPourings 178 = .ok (.iinc 7 1, 3) := by decide +kernel
theorem dX4_fewestPourings_181 : decode cX4_fewestPourings 181 = .ok (.goto (-41), 3) := by decide +kernel
theorem dX4_fewestPourings_184 : decode cX4_fewestPourings 184 = .ok (.iinc 5 1, 3) := by decide +kernel
theorem dX4_fewestPourings_187 : decode cX4_fewestPourings 187 = .ok (.goto (-144), 3) := by decide +kernel
theorem dX4_fewestPourings_190 : decode cX4_fewestPourings 190 = .ok (.iconst (-1), 1) := by decide +kernel
theorem dX4_fewestPourings_191 : decode cX4_fewestPourings 191 = .ok (.ireturn, 1) := by decide +kernel
theorem dX4_seeCans_0 : decode cX4_seeCans 0 = .ok (.aload_n 0, 1) := by decide +kernel
theorem dX4_seeCans_1 : decode cX4_seeCans 1 = .ok (.getfield 40, 3) := by decide +kernel
theorem dX4_seeCans_4 : decode cX4_seeCans 4 = .ok (.iconst 1, 1) := by decide +kernel
theorem dX4_seeCans_5 : decode cX4_seeCans 5 = .ok (.iload_n 1, 1) := by decide +kernel
theorem dX4_seeCans_6 : decode cX4_seeCans 6 = .ok (.bipush 13, 2) := by decide +kernel
theorem dX4_seeCans_8 : decode cX4_seeCans 8 = .ok (.idiv, 1) := by decide +kernel
theorem dX4_seeCans_9 : decode cX4_seeCans 9 = .ok (.iastore, 1) := by decide +kernel
theorem dX4_seeCans_10 : decode cX4_seeCans 10 = .ok (.aload_n 0, 1) := by decide +kernel
theorem dX4_seeCans_11 : decode cX4_seeCans 11 = .ok (.getfield 40, 3) := by decide +kernel
theorem dX4_seeCans_14 : decode cX4_seeCans 14 = .ok (.iconst 2, 1) := by decide +kernel
theorem dX4_seeCans_15 : decode cX4_seeCans 15 = .ok (.iload_n 1, 1) := by decide +kernel
theorem dX4_seeCans_16 : decode cX4_seeCans 16 = .ok (.bipush 13, 2) := by decide +kernel
theorem dX4_seeCans_18 : decode cX4_seeCans 18 = .ok (.irem, 1) := by decide +kernel
theorem dX4_seeCans_19 : decode cX4_seeCans 19 = .ok (.iastore, 1) := by decide +kernel
theorem dX4_seeCans_20 : decode cX4_seeCans 20 = .ok (.aload_n 0, 1) := by decide +kernel
theorem dX4_seeCans_21 : decode cX4_seeCans 21 = .ok (.getfield 40, 3) := by decide +kernel
theorem dX4_seeCans_24 : decode cX4_seeCans 24 = .ok (.iconst 0, 1) := by decide +kernel
theorem dX4_seeCans_25 : decode cX4_seeCans 25 = .ok (.aload_n 0, 1) := by decide +kernel
theorem dX4_seeCans_26 : decode cX4_seeCans 26 = .ok (.getfield 43, 3) := by decide +kernel
theorem dX4_seeCans_29 : decode cX4_seeCans 29 = .ok (.iconst 0, 1) := by decide +kernel
theorem dX4_seeCans_30 : decode cX4_seeCans 30 = .ok (.iaload, 1) := by decide +kernel
theorem dX4_seeCans_31 : decode cX4_seeCans 31 = .ok (.aload_n 0, 1) := by decide +kernel
theorem dX4_seeCans_32 : decode cX4_seeCans 32 = .ok (.getfield 40, 3) := by decide +kernel
theorem dX4_seeCans_35 : decode cX4_seeCans 35 = .ok (.iconst 1, 1) := by decide +kernel
theorem dX4_seeCans_36 : decode cX4_seeCans 36 = .ok (.iaload, 1) := by decide +kernel
theorem dX4_seeCans_37 : decode cX4_seeCans 37 = .ok (.isub, 1) := by decide +kernel
theorem dX4_seeCans_38 : decode cX4_seeCans 38 = .ok (.aload_n 0, 1) := by decide +kernel
theorem dX4_seeCans_39 : decode cX4_seeCans 39 = .ok (.getfield 40, 3) := by decide +kernel
theorem dX4_seeCans_42 : decode cX4_seeCans 42 = .ok (.iconst 2, 1) := by decide +kernel
theorem dX4_seeCans_43 : decode cX4_seeCans 43 = .ok (.iaload, 1) := by decide +kernel
theorem dX4_seeCans_44 : decode cX4_seeCans 44 = .ok (.isub, 1) := by decide +kernel
theorem dX4_seeCans_45 : decode cX4_seeCans 45 = .ok (.iastore, 1) := by decide +kernel
theorem dX4_seeCans_46 : decode cX4_seeCans 46 = .ok (.return_, 1) := by decide +kernel
theorem dX4_pour_0 : decode cX4_pour 0 = .ok (.aload_n 0, 1) := by decide +kernel
theorem dX4_pour_1 : decode cX4_pour 1 = .ok (.iload_n 1, 1) := by decide +kernel
theorem dX4_pour_2 : decode cX4_pour 2 = .ok (.invokevirtual 175, 3) := by decide +kernel
theorem dX4_pour_5 : decode cX4_pour 5 = .ok (.aload_n 0, 1) := by decide +kernel
theorem dX4_pour_6 : decode cX4_pour 6 = .ok (.getfield 40, 3) := by decide +kernel
theorem dX4_pour_9 : decode cX4_pour 9 = .ok (.iload_n 2, 1) := by decide +kernel
theorem dX4_pour_10 : decode cX4_pour 10 = .ok (.iaload, 1) := by decide +kernel
theorem dX4_pour_11 : decode cX4_pour 11 = .ok (.aload_n 0, 1) := by decide +kernel
theorem dX4_pour_12 : decode cX4_pour 12 = .ok (.getfield 43, 3) := by decide +kernel
theorem dX4_pour_15 : decode cX4_pour 15 = .ok (.iload_n 3, 1) := by decide +kernel
theorem dX4_pour_16 : decode cX4_pour 16 = .ok (.iaload, 1) := by decide +kernel
theorem dX4_pour_17 : decode cX4_pour 17 = .ok (.aload_n 0, 1) := by decide +kernel
theorem dX4_pour_18 : decode cX4_pour 18 = .ok (.getfield 40, 3) := by decide +kernel
theorem dX4_pour_21 : decode cX4_pour 21 = .ok (.iload_n 3, 1) := by decide +kernel
theorem dX4_pour_22 : decode cX4_pour 22 = .ok (.iaload, 1) := by decide +kernel
theorem dX4_pour_23 : decode cX4_pour 23 = .ok (.isub, 1) := by decide +kernel
theorem dX4_pour_24 : decode cX4_pour 24 = .ok (.invokestatic 104, 3) := by decide +kernel
theorem dX4_pour_27 : decode cX4_pour 27 = .ok (.istore 4, 2) := by decide +kernel
theorem dX4_pour_29 : decode cX4_pour 29 = .ok (.aload_n 0, 1) := by decide +kernel
theorem dX4_pour_30 : decode cX4_pour 30 = .ok (.getfield 40, 3) := by decide +kernel
theorem dX4_pour_33 : decode cX4_pour 33 = .ok (.iload_n 2, 1) := by decide +kernel
theorem dX4_pour_34 : decode cX4_pour 34 = .ok (.dup2, 1) := by decide +kernel
theorem dX4_pour_35 : decode cX4_pour 35 = .ok (.iaload, 1) := by decide +kernel
theorem dX4_pour_36 : decode cX4_pour 36 = .ok (.iload 4, 2) := by decide +kernel
theorem dX4_pour_38 : decode cX4_pour 38 = .ok (.isub, 1) := by decide +kernel
theorem dX4_pour_39 : decode cX4_pour 39 = .ok (.iastore, 1) := by decide +kernel
theorem dX4_pour_40 : decode cX4_pour 40 = .ok (.aload_n 0, 1) := by decide +kernel
theorem dX4_pour_41 : decode cX4_pour 41 = .ok (.getfield 40, 3) := by decide +kernel
theorem dX4_pour_44 : decode cX4_pour 44 = .ok (.iload_n 3, 1) := by decide +kernel
theorem dX4_pour_45 : decode cX4_pour 45 = .ok (.dup2, 1) := by decide +kernel
theorem dX4_pour_46 : decode cX4_pour 46 = .ok (.iaload, 1) := by decide +kernel
theorem dX4_pour_47 : decode cX4_pour 47 = .ok (.iload 4, 2) := by decide +kernel
theorem dX4_pour_49 : decode cX4_pour 49 = .ok (.iadd, 1) := by decide +kernel
theorem dX4_pour_50 : decode cX4_pour 50 = .ok (.iastore, 1) := by decide +kernel
theorem dX4_pour_51 : decode cX4_pour 51 = .ok (.aload_n 0, 1) := by decide +kernel
theorem dX4_pour_52 : decode cX4_pour 52 = .ok (.aload_n 0, 1) := by decide +kernel
theorem dX4_pour_53 : decode cX4_pour 53 = .ok (.getfield 40, 3) := by decide +kernel
theorem dX4_pour_56 : decode cX4_pour 56 = .ok (.iconst 1, 1) := by decide +kernel
theorem dX4_pour_57 : decode cX4_pour 57 = .ok (.iaload, 1) := by decide +kernel
theorem dX4_pour_58 : decode cX4_pour 58 = .ok (.bipush 13, 2) := by decide +kernel
theorem dX4_pour_60 : decode cX4_pour 60 = .ok (.imul, 1) := by decide +kernel
theorem dX4_pour_61 : decode cX4_pour 61 = .ok (.aload_n 0, 1) := by decide +kernel
theorem dX4_pour_62 : decode cX4_pour 62 = .ok (.getfield 40, 3) := by decide +kernel
theorem dX4_pour_65 : decode cX4_pour 65 = .ok (.iconst 2, 1) := by decide +kernel
theorem dX4_pour_66 : decode cX4_pour 66 = .ok (.iaload, 1) := by decide +kernel
theorem dX4_pour_67 : decode cX4_pour 67 = .ok (.iadd, 1) := by decide +kernel
theorem dX4_pour_68 : decode cX4_pour 68 = .ok (.aload_n 0, 1) := by decide +kernel
theorem dX4_pour_69 : decode cX4_pour 69 = .ok (.getfield 34, 3) := by decide +kernel
theorem dX4_pour_72 : decode cX4_pour 72 = .ok (.iload_n 1, 1) := by decide +kernel
theorem dX4_pour_73 : decode cX4_pour 73 = .ok (.iaload, 1) := by decide +kernel
theorem dX4_pour_74 : decode cX4_pour 74 = .ok (.iconst 1, 1) := by decide +kernel
theorem dX4_pour_75 : decode cX4_pour 75 = .ok (.iadd, 1) := by decide +kernel
theorem dX4_pour_76 : decode cX4_pour 76 = .ok (.invokevirtual 171, 3) := by decide +kernel
theorem dX4_pour_79 : decode cX4_pour 79 = .ok (.return_, 1) := by decide +kernel
theorem dX4_enqueue_0 : decode cX4_enqueue 0 = .ok (.iload_n 1, 1) := by decide +kernel
theorem dX4_enqueue_1 : decode cX4_enqueue 1 = .ok (.iconst 0, 1) := by decide +kernel
theorem dX4_enqueue_2 : decode cX4_enqueue 2 = .ok (.aload_n 0, 1) := by decide +kernel
theorem dX4_enqueue_3 : decode cX4_enqueue 3 = .ok (.getfield 34, 3) := by decide +kernel
theorem dX4_enqueue_6 : decode cX4_enqueue 6 = .ok (.arraylength, 1) := by decide +kernel
theorem dX4_enqueue_7 : decode cX4_enqueue 7 = .ok (.iconst 1, 1) := by decide +kernel
theorem dX4_enqueue_8 : decode cX4_enqueue 8 = .ok (.isub, 1) := by decide +kernel
theorem dX4_enqueue_9 : decode cX4_enqueue 9 = .ok (.invokestatic 90, 3) := by decide +kernel
theorem dX4_enqueue_12 : decode cX4_enqueue 12 = .ok (.ifCond .eq 15, 3) := by decide +kernel
theorem dX4_enqueue_15 : decode cX4_enqueue 15 = .ok (.aload_n 0, 1) := by decide +kernel
theorem dX4_enqueue_16 : decode cX4_enqueue 16 = .ok (.getfield 52, 3) := by decide +kernel
theorem dX4_enqueue_19 : decode cX4_enqueue 19 = .ok (.aload_n 0, 1) := by decide +kernel
theorem dX4_enqueue_20 : decode cX4_enqueue 20 = .ok (.getfield 37, 3) := by decide +kernel
theorem dX4_enqueue_23 : decode cX4_enqueue 23 = .ok (.arraylength, 1) := by decide +kernel
theorem dX4_enqueue_24 : decode cX4_enqueue 24 = .ok (.if_icmp .lt 4, 3) := by decide +kernel
theorem dX4_enqueue_27 : decode cX4_enqueue 27 = .ok (.return_, 1) := by decide +kernel
theorem dX4_enqueue_28 : decode cX4_enqueue 28 = .ok (.aload_n 0, 1) := by decide +kernel
theorem dX4_enqueue_29 : decode cX4_enqueue 29 = .ok (.getfield 34, 3) := by decide +kernel
theorem dX4_enqueue_32 : decode cX4_enqueue 32 = .ok (.iload_n 1, 1) := by decide +kernel
theorem dX4_enqueue_33 : decode cX4_enqueue 33 = .ok (.iaload, 1) := by decide +kernel
theorem dX4_enqueue_34 : decode cX4_enqueue 34 = .ok (.iconst (-1), 1) := by decide +kernel
theorem dX4_enqueue_35 : decode cX4_enqueue 35 = .ok (.if_icmp .eq 4, 3) := by decide +kernel
theorem dX4_enqueue_38 : decode cX4_enqueue 38 = .ok (.return_, 1) := by decide +kernel
theorem dX4_enqueue_39 : decode cX4_enqueue 39 = .ok (.aload_n 0, 1) := by decide +kernel
theorem dX4_enqueue_40 : decode cX4_enqueue 40 = .ok (.getfield 34, 3) := by decide +kernel
theorem dX4_enqueue_43 : decode cX4_enqueue 43 = .ok (.iload_n 1, 1) := by decide +kernel
theorem dX4_enqueue_44 : decode cX4_enqueue 44 = .ok (.iload_n 2, 1) := by decide +kernel
theorem dX4_enqueue_45 : decode cX4_enqueue 45 = .ok (.iastore, 1) := by decide +kernel
theorem dX4_enqueue_46 : decode cX4_enqueue 46 = .ok (.aload_n 0, 1) := by decide +kernel
theorem dX4_enqueue_47 : decode cX4_enqueue 47 = .ok (.getfield 37, 3) := by decide +kernel
theorem dX4_enqueue_50 : decode cX4_enqueue 50 = .ok (.aload_n 0, 1) := by decide +kernel
theorem dX4_enqueue_51 : decode cX4_enqueue 51 = .ok (.getfield 52, 3) := by decide +kernel
theorem dX4_enqueue_54 : decode cX4_enqueue 54 = .ok (.iload_n 1, 1) := by decide +kernel
theorem dX4_enqueue_55 : decode cX4_enqueue 55 = .ok (.iastore, 1) := by decide +kernel
theorem dX4_enqueue_56 : decode cX4_enqueue 56 = .ok (.aload_n 0, 1) := by decide +kernel
theorem dX4_enqueue_57 : decode cX4_enqueue 57 = .ok (.dup, 1) := by decide +kernel
theorem dX4_enqueue_58 : decode cX4_enqueue 58 = .ok (.getfield 52, 3) := by decide +kernel
theorem dX4_enqueue_61 : decode cX4_enqueue 61 = .ok (.iconst 1, 1) := by decide +kernel
theorem dX4_enqueue_62 : decode cX4_enqueue 62 = .ok (.iadd, 1) := by decide +kernel
theorem dX4_enqueue_63 : decode cX4_enqueue 63 = .ok (.putfield 52, 3) := by decide +kernel
theorem dX4_enqueue_66 : decode cX4_enqueue 66 = .ok (.return_, 1) := by decide +kernel
theorem dX4_hang_0 : decode cX4_hang 0 = .ok (.iconst 0, 1) := by decide +kernel
theorem dX4_hang_1 : decode cX4_hang 1 = .ok (.istore_n 2, 1) := by decide +kernel
theorem dX4_hang_2 : decode cX4_hang 2 = .ok (.iload_n 1, 1) := by decide +kernel
theorem dX4_hang_3 : decode cX4_hang 3 = .ok (.istore_n 3, 1) := by decide +kernel
theorem dX4_hang_4 : decode cX4_hang 4 = .ok (.iconst 0, 1) := by decide +kernel
theorem dX4_hang_5 : decode cX4_hang 5 = .ok (.istore 4, 2) := by decide +kernel
theorem dX4_hang_7 : decode cX4_hang 7 = .ok (.iload 4, 2) := by decide +kernel
theorem dX4_hang_9 : decode cX4_hang 9 = .ok (.bipush 9, 2) := by decide +kernel
theorem dX4_hang_11 : decode cX4_hang 11 = .ok (.if_icmp .ge 23, 3) := by decide +kernel
theorem dX4_hang_14 : decode cX4_hang 14 = .ok (.iload_n 3, 1) := by decide +kernel
theorem dX4_hang_15 : decode cX4_hang 15 = .ok (.bipush 10, 2) := by decide +kernel
theorem dX4_hang_17 : decode cX4_hang 17 = .ok (.if_icmp .lt 17, 3) := by decide +kernel
theorem dX4_hang_20 : decode cX4_hang 20 = .ok (.iload_n 3, 1) := by decide +kernel
theorem dX4_hang_21 : decode cX4_hang 21 = .ok (.bipush 10, 2) := by decide +kernel
theorem dX4_hang_23 : decode cX4_hang 23 = .ok (.idiv, 1) := by decide +kernel
theorem dX4_hang_24 : decode cX4_hang 24 = .ok (.istore_n 3, 1) := by decide +kernel
theorem dX4_hang_25 : decode cX4_hang 25 = .ok (.iinc 2 1, 3) := by decide +kernel
theorem dX4_hang_28 : decode cX4_hang 28 = .ok (.iinc 4 1, 3) := by decide +kernel
theorem dX4_hang_31 : decode cX4_hang 31 = .ok (.goto (-24), 3) := by decide +kernel
theorem dX4_hang_34 : decode cX4_hang 34 = .ok (.iload_n 3, 1) := by decide +kernel
theorem dX4_hang_35 : decode cX4_hang 35 = .ok (.iconst 1, 1) := by decide +kernel
theorem dX4_hang_36 : decode cX4_hang 36 = .ok (.if_icmp .ne 7, 3) := by decide +kernel
theorem dX4_hang_39 : decode cX4_hang 39 = .ok (.iload_n 2, 1) := by decide +kernel
theorem dX4_hang_40 : decode cX4_hang 40 = .ok (.ifCond .ne 5, 3) := by decide +kernel
theorem dX4_hang_43 : decode cX4_hang 43 = .ok (.iconst (-1), 1) := by decide +kernel
theorem dX4_hang_44 : decode cX4_hang 44 = .ok (.ireturn, 1) := by decide +kernel
theorem dX4_hang_45 : decode cX4_hang 45 = .ok (.iconst 0, 1) := by decide +kernel
theorem dX4_hang_46 : decode cX4_hang 46 = .ok (.istore 4, 2) := by decide +kernel
theorem dX4_hang_48 : decode cX4_hang 48 = .ok (.iload_n 1, 1) := by decide +kernel
theorem dX4_hang_49 : decode cX4_hang 49 = .ok (.istore_n 3, 1) := by decide +kernel
theorem dX4_hang_50 : decode cX4_hang 50 = .ok (.iload_n 2, 1) := by decide +kernel
theorem dX4_hang_51 : decode cX4_hang 51 = .ok (.iconst 1, 1) := by decide +kernel
theorem dX4_hang_52 : decode cX4_hang 52 = .ok (.isub, 1) := by decide +kernel
theorem dX4_hang_53 : decode cX4_hang 53 = .ok (.istore 5, 2) := by decide +kernel
theorem dX4_hang_55 : decode cX4_hang 55 = .ok (.iload 5, 2) := by decide +kernel
theorem dX4_hang_57 : decode cX4_hang 57 = .ok (.ifCond .lt 39, 3) := by decide +kernel
theorem dX4_hang_60 : decode cX4_hang 60 = .ok (.aload_n 0, 1) := by decide +kernel
theorem dX4_hang_61 : decode cX4_hang 61 = .ok (.getfield 46, 3) := by decide +kernel
theorem dX4_hang_64 : decode cX4_hang 64 = .ok (.iload 5, 2) := by decide +kernel
theorem dX4_hang_66 : decode cX4_hang 66 = .ok (.iload_n 3, 1) := by decide +kernel
theorem dX4_hang_67 : decode cX4_hang 67 = .ok (.bipush 10, 2) := by decide +kernel
theorem dX4_hang_69 : decode cX4_hang 69 = .ok (.irem, 1) := by decide +kernel
theorem dX4_hang_70 : decode cX4_hang 70 = .ok (.iastore, 1) := by decide +kernel
theorem dX4_hang_71 : decode cX4_hang 71 = .ok (.iload 4, 2) := by decide +kernel
theorem dX4_hang_73 : decode cX4_hang 73 = .ok (.iconst 1, 1) := by decide +kernel
theorem dX4_hang_74 : decode cX4_hang 74 = .ok (.aload_n 0, 1) := by decide +kernel
theorem dX4_hang_75 : decode cX4_hang 75 = .ok (.getfield 46, 3) := by decide +kernel
theorem dX4_hang_78 : decode cX4_hang 78 = .ok (.iload 5, 2) := by decide +kernel
theorem dX4_hang_80 : decode cX4_hang 80 = .ok (.iaload, 1) := by decide +kernel
theorem dX4_hang_81 : decode cX4_hang 81 = .ok (.ishl, 1) := by decide +kernel
theorem dX4_hang_82 : decode cX4_hang 82 = .ok (.ior, 1) := by decide +kernel
theorem dX4_hang_83 : decode cX4_hang 83 = .ok (.istore 4, 2) := by decide +kernel
theorem dX4_hang_85 : decode cX4_hang 85 = .ok (.iload_n 3, 1) := by decide +kernel
theorem dX4_hang_86 : decode cX4_hang 86 = .ok (.bipush 10, 2) := by decide +kernel
theorem dX4_hang_88 : decode cX4_hang 88 = .ok (.idiv, 1) := by decide +kernel
theorem dX4_hang_89 : decode cX4_hang 89 = .ok (.istore_n 3, 1) := by decide +kernel
theorem dX4_hang_90 : decode cX4_hang 90 = .ok (.iinc 5 (-1), 3) := by decide +kernel
theorem dX4_hang_93 : decode cX4_hang 93 = .ok (.goto (-38), 3) := by decide +kernel
theorem dX4_hang_96 : decode cX4_hang 96 = .ok (.iload 4, 2) := by decide +kernel
theorem dX4_hang_98 : decode cX4_hang 98 = .ok (.iconst 1, 1) := by decide +kernel
theorem dX4_hang_99 : decode cX4_hang 99 = .ok (.iload_n 2, 1) := by decide +kernel
theorem dX4_hang_100 : decode cX4_hang 100 = .ok (.ishl, 1) := by decide +kernel
theorem dX4_hang_101 : decode cX4_hang 101 = .ok (.iconst 1, 1) := by decide +kernel
theorem dX4_hang_102 : decode cX4_hang 102 = .ok (.isub, 1) := by decide +kernel
theorem dX4_hang_103 : decode cX4_hang 103 = .ok (.if_icmp .ne 7, 3) := by decide +kernel
theorem dX4_hang_106 : decode cX4_hang 106 = .ok (.iload_n 2, 1) := by decide +kernel
theorem dX4_hang_107 : decode cX4_hang 107 = .ok (.goto 4, 3) := by decide +kernel
theorem dX4_hang_110 : decode cX4_hang 110 = .ok (.iconst (-1), 1) := by decide +kernel
theorem dX4_hang_111 : decode cX4_hang 111 = .ok (.ireturn, 1) := by decide +kernel
theorem dX4_longestRising_0 : decode cX4_longestRising 0 = .ok (.iconst 0, 1) := by decide +kernel
theorem dX4_longestRising_1 : decode cX4_longestRising 1 = .ok (.istore_n 2, 1) := by decide +kernel
theorem dX4_longestRising_2 : decode cX4_longestRising 2 = .ok (.iconst 0, 1) := by decide +kernel
theorem dX4_longestRising_3 : decode cX4_longestRising 3 = .ok (.istore_n 3, 1) := by decide +kernel
theorem dX4_longestRising_4 : decode cX4_longestRising 4 = .ok (.iload_n 3, 1) := by decide +kernel
theorem dX4_longestRising_5 : decode cX4_longestRising 5 = .ok (.iload_n 1, 1) := by decide +kernel
theorem dX4_longestRising_6 : decode cX4_longestRising 6 = .ok (.if_icmp .ge 88, 3) := by decide +kernel
theorem dX4_longestRising_9 : decode cX4_longestRising 9 = .ok (.iload_n 3, 1) := by decide +kernel
theorem dX4_longestRising_10 : decode cX4_longestRising 10 = .ok (.bipush 9, 2) := by decide +kernel
theorem dX4_longestRising_12 : decode cX4_longestRising 12 = .ok (.if_icmp .ge 82, 3) := by decide +kernel
theorem dX4_longestRising_15 : decode cX4_longestRising 15 = .ok (.aload_n 0, 1) := by decide +kernel
theorem dX4_longestRising_16 : decode cX4_longestRising 16 = .ok (.getfield 49, 3) := by decide +kernel
theorem dX4_longestRising_19 : decode cX4_longestRising 19 = .ok (.iload_n 3, 1) := by decide +kernel
theorem dX4_longestRising_20 : decode cX4_longestRising 20 = .ok (.iconst 1, 1) := by decide +kernel
theorem dX4_longestRising_21 : decode cX4_longestRising 21 = .ok (.iastore, 1) := by decide +kernel
theorem dX4_longestRising_22 : decode cX4_longestRising 22 = .ok (.iconst 0, 1) := by decide +kernel
theorem dX4_longestRising_23 : decode cX4_longestRising 23 = .ok (.istore 4, 2) := by decide +kernel
theorem dX4_longestRising_25 : decode cX4_longestRising 25 = .ok (.iload 4, 2) := by decide +kernel
theorem dX4_longestRising_27 : decode cX4_longestRising 27 = .ok (.iload_n 3, 1) := by decide +kernel
theorem dX4_longestRising_28 : decode cX4_longestRising 28 = .ok (.if_icmp .ge 49, 3) := by decide +kernel
theorem dX4_longestRising_31 : decode cX4_longestRising 31 = .ok (.aload_n 0, 1) := by decide +kernel
theorem dX4_longestRising_32 : decode cX4_longestRising 32 = .ok (.getfield 46, 3) := by decide +kernel
theorem dX4_longestRising_35 : decode cX4_longestRising 35 = .ok (.iload 4, 2) := by decide +kernel
theorem dX4_longestRising_37 : decode cX4_longestRising 37 = .ok (.iaload, 1) := by decide +kernel
theorem dX4_longestRising_38 : decode cX4_longestRising 38 = .ok (.aload_n 0, 1) := by decide +kernel
theorem dX4_longestRising_39 : decode cX4_longestRising 39 = .ok (.getfield 46, 3) := by decide +kernel
theorem dX4_longestRising_42 : decode cX4_longestRising 42 = .ok (.iload_n 3, 1) := by decide +kernel
theorem dX4_longestRising_43 : decode cX4_longestRising 43 = .ok (.iaload, 1) := by decide +kernel
theorem dX4_longestRising_44 : decode cX4_longestRising 44 = .ok (.if_icmp .ge 27, 3) := by decide +kernel
theorem dX4_longestRising_47 : decode cX4_longestRising 47 = .ok (.aload_n 0, 1) := by decide +kernel
theorem dX4_longestRising_48 : decode cX4_longestRising 48 = .ok (.getfield 49, 3) := by decide +kernel
theorem dX4_longestRising_51 : decode cX4_longestRising 51 = .ok (.iload_n 3, 1) := by decide +kernel
theorem dX4_longestRising_52 : decode cX4_longestRising 52 = .ok (.aload_n 0, 1) := by decide +kernel
theorem dX4_longestRising_53 : decode cX4_longestRising 53 = .ok (.getfield 49, 3) := by decide +kernel
theorem dX4_longestRising_56 : decode cX4_longestRising 56 = .ok (.iload_n 3, 1) := by decide +kernel
theorem dX4_longestRising_57 : decode cX4_longestRising 57 = .ok (.iaload, 1) := by decide +kernel
theorem dX4_longestRising_58 : decode cX4_longestRising 58 = .ok (.aload_n 0, 1) := by decide +kernel
theorem dX4_longestRising_59 : decode cX4_longestRising 59 = .ok (.getfield 49, 3) := by decide +kernel
theorem dX4_longestRising_62 : decode cX4_longestRising 62 = .ok (.iload 4, 2) := by decide +kernel
theorem dX4_longestRising_64 : decode cX4_longestRising 64 = .ok (.iaload, 1) := by decide +kernel
theorem dX4_longestRising_65 : decode cX4_longestRising 65 = .ok (.iconst 1, 1) := by decide +kernel
theorem dX4_longestRising_66 : decode cX4_longestRising 66 = .ok (.iadd, 1) := by decide +kernel
theorem dX4_longestRising_67 : decode cX4_longestRising 67 = .ok (.invokestatic 79, 3) := by decide +kernel
theorem dX4_longestRising_70 : decode cX4_longestRising 70 = .ok (.iastore, 1) := by decide +kernel
theorem dX4_longestRising_71 : decode cX4_longestRising 71 = .ok (.iinc 4 1, 3) := by decide +kernel
theorem dX4_longestRising_74 : decode cX4_longestRising 74 = .ok (.goto (-49), 3) := by decide +kernel
theorem dX4_longestRising_77 : decode cX4_longestRising 77 = .ok (.iload_n 2, 1) := by decide +kernel
theorem dX4_longestRising_78 : decode cX4_longestRising 78 = .ok (.aload_n 0, 1) := by decide +kernel
theorem dX4_longestRising_79 : decode cX4_longestRising 79 = .ok (.getfield 49, 3) := by decide +kernel
theorem dX4_longestRising_82 : decode cX4_longestRising 82 = .ok (.iload_n 3, 1) := by decide +kernel
theorem dX4_longestRising_83 : decode cX4_longestRising 83 = .ok (.iaload, 1) := by decide +kernel
theorem dX4_longestRising_84 : decode cX4_longestRising 84 = .ok (.invokestatic 79, 3) := by decide +kernel
theorem dX4_longestRising_87 : decode cX4_longestRising 87 = .ok (.istore_n 2, 1) := by decide +kernel
theorem dX4_longestRising_88 : decode cX4_longestRising 88 = .ok (.iinc 3 1, 3) := by decide +kernel
theorem dX4_longestRising_91 : decode cX4_longestRising 91 = .ok (.goto (-87), 3) := by decide +kernel
theorem dX4_longestRising_94 : decode cX4_longestRising 94 = .ok (.iload_n 2, 1) := by decide +kernel
theorem dX4_longestRising_95 : decode cX4_longestRising 95 = .ok (.ireturn, 1) := by decide +kernel
theorem dX4_wrongCouples_0 : decode cX4_wrongCouples 0 = .ok (.iconst 0, 1) := by decide +kernel
theorem dX4_wrongCouples_1 : decode cX4_wrongCouples 1 = .ok (.istore_n 2, 1) := by decide +kernel
theorem dX4_wrongCouples_2 : decode cX4_wrongCouples 2 = .ok (.iconst 0, 1) := by decide +kernel
theorem dX4_wrongCouples_3 : decode cX4_wrongCouples 3 = .ok (.istore_n 3, 1) := by decide +kernel
theorem dX4_wrongCouples_4 : decode cX4_wrongCouples 4 = .ok (.iload_n 3, 1) := by decide +kernel
theorem dX4_wrongCouples_5 : decode cX4_wrongCouples 5 = .ok (.iload_n 1, 1) := by decide +kernel
theorem dX4_wrongCouples_6 : decode cX4_wrongCouples 6 = .ok (.if_icmp .ge 18, 3) := by decide +kernel
theorem dX4_wrongCouples_9 : decode cX4_wrongCouples 9 = .ok (.iload_n 2, 1) := by decide +kernel
theorem dX4_wrongCouples_10 : decode cX4_wrongCouples 10 = .ok (.aload_n 0, 1) := by decide +kernel
theorem dX4_wrongCouples_11 : decode cX4_wrongCouples 11 = .ok (.iload_n 3, 1) := by decide +kernel
theorem dX4_wrongCouples_12 : decode cX4_wrongCouples 12 = .ok (.iload_n 1, 1) := by decide +kernel
theorem dX4_wrongCouples_13 : decode cX4_wrongCouples 13 = .ok (.invokevirtual 181, 3) := by decide +kernel
theorem dX4_wrongCouples_16 : decode cX4_wrongCouples 16 = .ok (.iadd, 1) := by decide +kernel
theorem dX4_wrongCouples_17 : decode cX4_wrongCouples 17 = .ok (.istore_n 2, 1) := by decide +kernel
theorem dX4_wrongCouples_18 : decode cX4_wrongCouples 18 = .ok (.iinc 3 1, 3) := by decide +kernel
theorem dX4_wrongCouples_21 : decode cX4_wrongCouples 21 = .ok (.goto (-17), 3) := by decide +kernel
theorem dX4_wrongCouples_24 : decode cX4_wrongCouples 24 = .ok (.iload_n 2, 1) := by decide +kernel
theorem dX4_wrongCouples_25 : decode cX4_wrongCouples 25 = .ok (.ireturn, 1) := by decide +kernel
theorem dX4_lesserBehind_0 : decode cX4_lesserBehind 0 = .ok (.iconst 0, 1) := by decide +kernel
theorem dX4_lesserBehind_1 : decode cX4_lesserBehind 1 = .ok (.istore_n 3, 1) := by decide +kernel
theorem dX4_lesserBehind_2 : decode cX4_lesserBehind 2 = .ok (.iload_n 1, 1) := by decide +kernel
theorem dX4_lesserBehind_3 : decode cX4_lesserBehind 3 = .ok (.iconst 1, 1) := by decide +kernel
theorem dX4_lesserBehind_4 : decode cX4_lesserBehind 4 = .ok (.iadd, 1) := by decide +kernel
theorem dX4_lesserBehind_5 : decode cX4_lesserBehind 5 = .ok (.istore 4, 2) := by decide +kernel
theorem dX4_lesserBehind_7 : decode cX4_lesserBehind 7 = .ok (.iload 4, 2) := by decide +kernel
theorem dX4_lesserBehind_9 : decode cX4_lesserBehind 9 = .ok (.iload_n 2, 1) := by decide +kernel
theorem dX4_lesserBehind_10 : decode cX4_lesserBehind 10 = .ok (.if_icmp .ge 35, 3) := by decide +kernel
theorem dX4_lesserBehind_13 : decode cX4_lesserBehind 13 = .ok (.iload 4, 2) := by decide +kernel
theorem dX4_lesserBehind_15 : decode cX4_lesserBehind 15 = .ok (.bipush 9, 2) := by decide +kernel
theorem dX4_lesserBehind_17 : decode cX4_lesserBehind 17 = .ok (.if_icmp .ge 28, 3) := by decide +kernel
theorem dX4_lesserBehind_20 : decode cX4_lesserBehind 20 = .ok (.aload_n 0, 1) := by decide +kernel
theorem dX4_lesserBehind_21 : decode cX4_lesserBehind 21 = .ok (.getfield 46, 3) := by decide +kernel
theorem dX4_lesserBehind_24 : decode cX4_lesserBehind 24 = .ok (.iload 4, 2) := by decide +kernel
theorem dX4_lesserBehind_26 : decode cX4_lesserBehind 26 = .ok (.iaload, 1) := by decide +kernel
theorem dX4_lesserBehind_27 : decode cX4_lesserBehind 27 = .ok (.aload_n 0, 1) := by decide +kernel
theorem dX4_lesserBehind_28 : decode cX4_lesserBehind 28 = .ok (.getfield 46, 3) := by decide +kernel
theorem dX4_lesserBehind_31 : decode cX4_lesserBehind 31 = .ok (.iload_n 1, 1) := by decide +kernel
theorem dX4_lesserBehind_32 : decode cX4_lesserBehind 32 = .ok (.iaload, 1) := by decide +kernel
theorem dX4_lesserBehind_33 : decode cX4_lesserBehind 33 = .ok (.if_icmp .ge 6, 3) := by decide +kernel
theorem dX4_lesserBehind_36 : decode cX4_lesserBehind 36 = .ok (.iinc 3 1, 3) := by decide +kernel
theorem dX4_lesserBehind_39 : decode cX4_lesserBehind 39 = .ok (.iinc 4 1, 3) := by decide +kernel
theorem dX4_lesserBehind_42 : decode cX4_lesserBehind 42 = .ok (.goto (-35), 3) := by decide +kernel
theorem dX4_lesserBehind_45 : decode cX4_lesserBehind 45 = .ok (.iload_n 3, 1) := by decide +kernel
theorem dX4_lesserBehind_46 : decode cX4_lesserBehind 46 = .ok (.ireturn, 1) := by decide +kernel
theorem dX4_placeAmongAll_0 : decode cX4_placeAmongAll 0 = .ok (.iconst 0, 1) := by decide +kernel
theorem dX4_placeAmongAll_1 : decode cX4_placeAmongAll 1 = .ok (.istore_n 2, 1) := by decide +kernel
theorem dX4_placeAmongAll_2 : decode cX4_placeAmongAll 2 = .ok (.iconst 0, 1) := by decide +kernel
theorem dX4_placeAmongAll_3 : decode cX4_placeAmongAll 3 = .ok (.istore_n 3, 1) := by decide +kernel
theorem dX4_placeAmongAll_4 : decode cX4_placeAmongAll 4 = .ok (.iload_n 3, 1) := by decide +kernel
theorem dX4_placeAmongAll_5 : decode cX4_placeAmongAll 5 = .ok (.iload_n 1, 1) := by decide +kernel
theorem dX4_placeAmongAll_6 : decode cX4_placeAmongAll 6 = .ok (.if_icmp .ge 22, 3) := by decide +kernel
theorem dX4_placeAmongAll_9 : decode cX4_placeAmongAll 9 = .ok (.iload_n 2, 1) := by decide +kernel
theorem dX4_placeAmongAll_10 : decode cX4_placeAmongAll 10 = .ok (.iload_n 1, 1) := by decide +kernel
theorem dX4_placeAmongAll_11 : decode cX4_placeAmongAll 11 = .ok (.iload_n 3, 1) := by decide +kernel
theorem dX4_placeAmongAll_12 : decode cX4_placeAmongAll 12 = .ok (.isub, 1) := by decide +kernel
theorem dX4_placeAmongAll_13 : decode cX4_placeAmongAll 13 = .ok (.imul, 1) := by decide +kernel
theorem dX4_placeAmongAll_14 : decode cX4_placeAmongAll 14 = .ok (.aload_n 0, 1) := by decide +kernel
theorem dX4_placeAmongAll_15 : decode cX4_placeAmongAll 15 = .ok (.iload_n 3, 1) := by decide +kernel
theorem dX4_placeAmongAll_16 : decode cX4_placeAmongAll 16 = .ok (.iload_n 1, 1) := by decide +kernel
theorem dX4_placeAmongAll_17 : decode cX4_placeAmongAll 17 = .ok (.invokevirtual 181, 3) := by decide +kernel
theorem dX4_placeAmongAll_20 : decode cX4_placeAmongAll 20 = .ok (.iadd, 1) := by decide +kernel
theorem dX4_placeAmongAll_21 : decode cX4_placeAmongAll 21 = .ok (.istore_n 2, 1) := by decide +kernel
theorem dX4_placeAmongAll_22 : decode cX4_placeAmongAll 22 = .ok (.iinc 3 1, 3) := by decide +kernel
theorem dX4_placeAmongAll_25 : decode cX4_placeAmongAll 25 = .ok (.goto (-21), 3) := by decide +kernel
theorem dX4_placeAmongAll_28 : decode cX4_placeAmongAll 28 = .ok (.iload_n 2, 1) := by decide +kernel
theorem dX4_placeAmongAll_29 : decode cX4_placeAmongAll 29 = .ok (.ireturn, 1) := by decide +kernel
theorem dX4_winningTake_0 : decode cX4_winningTake 0 = .ok (.iload_n 2, 1) := by decide +kernel
theorem dX4_winningTake_1 : decode cX4_winningTake 1 = .ok (.iconst 1, 1) := by decide +kernel
theorem dX4_winningTake_2 : decode cX4_winningTake 2 = .ok (.if_icmp .ge 5, 3) := by decide +kernel
theorem dX4_winningTake_5 : decode cX4_winningTake 5 = .ok (.iconst (-1), 1) := by decide +kernel
theorem dX4_winningTake_6 : decode cX4_winningTake 6 = .ok (.ireturn, 1) := by decide +kernel
theorem dX4_winningTake_7 : decode cX4_winningTake 7 = .ok (.iload_n 2, 1) := by decide +kernel
theorem dX4_winningTake_8 : decode cX4_winningTake 8 = .ok (.istore_n 3, 1) := by decide +kernel
theorem dX4_winningTake_9 : decode cX4_winningTake 9 = .ok (.iload_n 3, 1) := by decide +kernel
theorem dX4_winningTake_10 : decode cX4_winningTake 10 = .ok (.iload_n 1, 1) := by decide +kernel
theorem dX4_winningTake_11 : decode cX4_winningTake 11 = .ok (.if_icmp .gt 40, 3) := by decide +kernel
theorem dX4_winningTake_14 : decode cX4_winningTake 14 = .ok (.iload_n 1, 1) := by decide +kernel
theorem dX4_winningTake_15 : decode cX4_winningTake 15 = .ok (.iload_n 3, 1) := by decide +kernel
theorem dX4_winningTake_16 : decode cX4_winningTake 16 = .ok (.isub, 1) := by decide +kernel
theorem dX4_winningTake_17 : decode cX4_winningTake 17 = .ok (.istore 4, 2) := by decide +kernel
theorem dX4_winningTake_19 : decode cX4_winningTake 19 = .ok (.iload 4, 2) := by decide +kernel
theorem dX4_winningTake_21 : decode cX4_winningTake 21 = .ok (.ifCond .eq 21, 3) := by decide +kernel
theorem dX4_winningTake_24 : decode cX4_winningTake 24 = .ok (.iload 4, 2) := by decide +kernel
theorem dX4_winningTake_26 : decode cX4_winningTake 26 = .ok (.iload_n 2, 1) := by decide +kernel
theorem dX4_winningTake_27 : decode cX4_winningTake 27 = .ok (.invokestatic 79, 3) := by decide +kernel
theorem dX4_winningTake_30 : decode cX4_winningTake 30 = .ok (.iload 4, 2) := by decide +kernel
theorem dX4_winningTake_32 : decode cX4_winningTake 32 = .ok (.iload_n 2, 1) := by decide +kernel
theorem dX4_winningTake_33 : decode cX4_winningTake 33 = .ok (.invokestatic 104, 3) := by decide +kernel
theorem dX4_winningTake_36 : decode cX4_winningTake 36 = .ok (.invokestatic 184, 3) := by decide +kernel
theorem dX4_winningTake_39 : decode cX4_winningTake 39 = .ok (.ifCond .ne 5, 3) := by decide +kernel
theorem dX4_winningTake_42 : decode cX4_winningTake 42 = .ok (.iload_n 3, 1) := by decide +kernel
theorem dX4_winningTake_43 : decode cX4_winningTake 43 = .ok (.ireturn, 1) := by decide +kernel
theorem dX4_winningTake_44 : decode cX4_winningTake 44 = .ok (.iload_n 3, 1) := by decide +kernel
theorem dX4_winningTake_45 : decode cX4_winningTake 45 = .ok (.iload_n 2, 1) := by decide +kernel
theorem dX4_winningTake_46 : decode cX4_winningTake 46 = .ok (.iadd, 1) := by decide +kernel
theorem dX4_winningTake_47 : decode cX4_winningTake 47 = .ok (.istore_n 3, 1) := by decide +kernel
theorem dX4_winningTake_48 : decode cX4_winningTake 48 = .ok (.goto (-39), 3) := by decide +kernel
theorem dX4_winningTake_51 : decode cX4_winningTake 51 = .ok (.iconst (-1), 1) := by decide +kernel
theorem dX4_winningTake_52 : decode cX4_winningTake 52 = .ok (.ireturn, 1) := by decide +kernel
theorem dX4_wins_0 : decode cX4_wins 0 = .ok (.iload_n 0, 1) := by decide +kernel
theorem dX4_wins_1 : decode cX4_wins 1 = .ok (.istore_n 2, 1) := by decide +kernel
theorem dX4_wins_2 : decode cX4_wins 2 = .ok (.iload_n 1, 1) := by decide +kernel
theorem dX4_wins_3 : decode cX4_wins 3 = .ok (.istore_n 3, 1) := by decide +kernel
theorem dX4_wins_4 : decode cX4_wins 4 = .ok (.iconst 0, 1) := by decide +kernel
theorem dX4_wins_5 : decode cX4_wins 5 = .ok (.istore 4, 2) := by decide +kernel
theorem dX4_wins_7 : decode cX4_wins 7 = .ok (.iload 4, 2) := by decide +kernel
theorem dX4_wins_9 : decode cX4_wins 9 = .ok (.iload_n 0, 1) := by decide +kernel
theorem dX4_wins_10 : decode cX4_wins 10 = .ok (.if_icmp .ge 44, 3) := by decide +kernel
theorem dX4_wins_13 : decode cX4_wins 13 = .ok (.iload_n 2, 1) := by decide +kernel
theorem dX4_wins_14 : decode cX4_wins 14 = .ok (.iconst 2, 1) := by decide +kernel
theorem dX4_wins_15 : decode cX4_wins 15 = .ok (.iload_n 3, 1) := by decide +kernel
theorem dX4_wins_16 : decode cX4_wins 16 = .ok (.imul, 1) := by decide +kernel
theorem dX4_wins_17 : decode cX4_wins 17 = .ok (.if_icmp .ge 8, 3) := by decide +kernel
theorem dX4_wins_20 : decode cX4_wins 20 = .ok (.iload_n 2, 1) := by decide +kernel
theorem dX4_wins_21 : decode cX4_wins 21 = .ok (.iload_n 3, 1) := by decide +kernel
theorem dX4_wins_22 : decode cX4_wins 22 = .ok (.if_icmp .ne 16, 3) := by decide +kernel
theorem dX4_wins_25 : decode cX4_wins 25 = .ok (.iload 4, 2) := by decide +kernel
theorem dX4_wins_27 : decode cX4_wins 27 = .ok (.iconst 2, 1) := by decide +kernel
theorem dX4_wins_28 : decode cX4_wins 28 = .ok (.irem, 1) := by decide +kernel
theorem dX4_wins_29 : decode cX4_wins 29 = .ok (.ifCond .ne 7, 3) := by decide +kernel
theorem dX4_wins_32 : decode cX4_wins 32 = .ok (.iconst 1, 1) := by decide +kernel
theorem dX4_wins_33 : decode cX4_wins 33 = .ok (.goto 4, 3) := by decide +kernel
theorem dX4_wins_36 : decode cX4_wins 36 = .ok (.iconst 0, 1) := by decide +kernel
theorem dX4_wins_37 : decode cX4_wins 37 = .ok (.ireturn, 1) := by decide +kernel
theorem dX4_wins_38 : decode cX4_wins 38 = .ok (.iload_n 2, 1) := by decide +kernel
theorem dX4_wins_39 : decode cX4_wins 39 = .ok (.iload_n 3, 1) := by decide +kernel
theorem dX4_wins_40 : decode cX4_wins 40 = .ok (.isub, 1) := by decide +kernel
theorem dX4_wins_41 : decode cX4_wins 41 = .ok (.istore 5, 2) := by decide +kernel
theorem dX4_wins_43 : decode cX4_wins 43 = .ok (.iload_n 3, 1) := by decide +kernel
theorem dX4_wins_44 : decode cX4_wins 44 = .ok (.istore_n 2, 1) := by decide +kernel
theorem dX4_wins_45 : decode cX4_wins 45 = .ok (.iload 5, 2) := by decide +kernel
theorem dX4_wins_47 : decode cX4_wins 47 = .ok (.istore_n 3, 1) := by decide +kernel
theorem dX4_wins_48 : decode cX4_wins 48 = .ok (.iinc 4 1, 3) := by decide +kernel
theorem dX4_wins_51 : decode cX4_wins 51 = .ok (.goto (-44), 3) := by decide +kernel
theorem dX4_wins_54 : decode cX4_wins 54 = .ok (.iconst 0, 1) := by decide +kernel
theorem dX4_wins_55 : decode cX4_wins 55 = .ok (.ireturn, 1) := by decide +kernel
theorem dX5_init_0 : decode cX5_init 0 = .ok (.aload_n 0, 1) := by decide +kernel
theorem dX5_init_1 : decode cX5_init 1 = .ok (.invokespecial 3, 3) := by decide +kernel
theorem dX5_init_4 : decode cX5_init 4 = .ok (.aload_n 0, 1) := by decide +kernel
theorem dX5_init_5 : decode cX5_init 5 = .ok (.new 9, 3) := by decide +kernel
theorem dX5_init_8 : decode cX5_init 8 = .ok (.dup, 1) := by decide +kernel
theorem dX5_init_9 : decode cX5_init 9 = .ok (.iconst 4, 1) := by decide +kernel
theorem dX5_init_10 : decode cX5_init 10 = .ok (.bipush 16, 2) := by decide +kernel
theorem dX5_init_12 : decode cX5_init 12 = .ok (.invokespecial 11, 3) := by decide +kernel
theorem dX5_init_15 : decode cX5_init 15 = .ok (.putfield 14, 3) := by decide +kernel
theorem dX5_init_18 : decode cX5_init 18 = .ok (.aload_n 0, 1) := by decide +kernel
theorem dX5_init_19 : decode cX5_init 19 = .ok (.new 9, 3) := by decide +kernel
theorem dX5_init_22 : decode cX5_init 22 = .ok (.dup, 1) := by decide +kernel
theorem dX5_init_23 : decode cX5_init 23 = .ok (.iconst 1, 1) := by decide +kernel
theorem dX5_init_24 : decode cX5_init 24 = .ok (.sipush 400, 3) := by decide +kernel
theorem dX5_init_27 : decode cX5_init 27 = .ok (.invokespecial 11, 3) := by decide +kernel
theorem dX5_init_30 : decode cX5_init 30 = .ok (.putfield 20, 3) := by decide +kernel
theorem dX5_init_33 : decode cX5_init 33 = .ok (.aload_n 0, 1) := by decide +kernel
theorem dX5_init_34 : decode cX5_init 34 = .ok (.bipush 28, 2) := by decide +kernel
theorem dX5_init_36 : decode cX5_init 36 = .ok (.newarray .int, 2) := by decide +kernel
theorem dX5_init_38 : decode cX5_init 38 = .ok (.putfield 23, 3) := by decide +kernel
theorem dX5_init_41 : decode cX5_init 41 = .ok (.aload_n 0, 1) := by decide +kernel
theorem dX5_init_42 : decode cX5_init 42 = .ok (.iconst 0, 1) := by decide +kernel
theorem dX5_init_43 : decode cX5_init 43 = .ok (.putfield 27, 3) := by decide +kernel
theorem dX5_init_46 : decode cX5_init 46 = .ok (.aload_n 0, 1) := by decide +kernel
theorem dX5_init_47 : decode cX5_init 47 = .ok (.iconst 0, 1) := by decide +kernel
theorem dX5_init_48 : decode cX5_init 48 = .ok (.putfield 31, 3) := by decide +kernel
theorem dX5_init_51 : decode cX5_init 51 = .ok (.aload_n 0, 1) := by decide +kernel
theorem dX5_init_52 : decode cX5_init 52 = .ok (.iconst 0, 1) := by decide +kernel
theorem dX5_init_53 : decode cX5_init 53 = .ok (.putfield 34, 3) := by decide +kernel
theorem dX5_init_56 : decode cX5_init 56 = .ok (.aload_n 0, 1) := by decide +kernel
theorem dX5_init_57 : decode cX5_init 57 = .ok (.iconst (-1), 1) := by decide +kernel
theorem dX5_init_58 : decode cX5_init 58 = .ok (.putfield 37, 3) := by decide +kernel
theorem dX5_init_61 : decode cX5_init 61 = .ok (.aload_n 0, 1) := by decide +kernel
theorem dX5_init_62 : decode cX5_init 62 = .ok (.new 40, 3) := by decide +kernel
theorem dX5_init_65 : decode cX5_init 65 = .ok (.dup, 1) := by decide +kernel
theorem dX5_init_66 : decode cX5_init 66 = .ok (.aload_n 1, 1) := by decide +kernel
theorem dX5_init_67 : decode cX5_init 67 = .ok (.invokespecial 42, 3) := by decide +kernel
theorem dX5_init_70 : decode cX5_init 70 = .ok (.putfield 45, 3) := by decide +kernel
theorem dX5_init_73 : decode cX5_init 73 = .ok (.aload_n 0, 1) := by decide +kernel
theorem dX5_init_74 : decode cX5_init 74 = .ok (.aload_n 2, 1) := by decide +kernel
theorem dX5_init_75 : decode cX5_init 75 = .ok (.putfield 49, 3) := by decide +kernel
theorem dX5_init_78 : decode cX5_init 78 = .ok (.return_, 1) := by decide +kernel
theorem dX5_faultKind_0 : decode cX5_faultKind 0 = .ok (.aload_n 0, 1) := by decide +kernel
theorem dX5_faultKind_1 : decode cX5_faultKind 1 = .ok (.getfield 34, 3) := by decide +kernel
theorem dX5_faultKind_4 : decode cX5_faultKind 4 = .ok (.ireturn, 1) := by decide +kernel
theorem dX5_faultPlace_0 : decode cX5_faultPlace 0 = .ok (.aload_n 0, 1) := by decide +kernel
theorem dX5_faultPlace_1 : decode cX5_faultPlace 1 = .ok (.getfield 37, 3) := by decide +kernel
theorem dX5_faultPlace_4 : decode cX5_faultPlace 4 = .ok (.ireturn, 1) := by decide +kernel
theorem dX5_draft_0 : decode cX5_draft 0 = .ok (.aload_n 0, 1) := by decide +kernel
theorem dX5_draft_1 : decode cX5_draft 1 = .ok (.getfield 14, 3) := by decide +kernel
theorem dX5_draft_4 : decode cX5_draft 4 = .ok (.areturn, 1) := by decide +kernel
theorem dX5_draftCode_0 : decode cX5_draftCode 0 = .ok (.aload_n 0, 1) := by decide +kernel
theorem dX5_draftCode_1 : decode cX5_draftCode 1 = .ok (.getfield 20, 3) := by decide +kernel
theorem dX5_draftCode_4 : decode cX5_draftCode 4 = .ok (.areturn, 1) := by decide +kernel
theorem dX5_read_0 : decode cX5_read 0 = .ok (.aload_n 0, 1) := by decide +kernel
theorem dX5_read_1 : decode cX5_read 1 = .ok (.iconst 0, 1) := by decide +kernel
theorem dX5_read_2 : decode cX5_read 2 = .ok (.putfield 34, 3) := by decide +kernel
theorem dX5_read_5 : decode cX5_read 5 = .ok (.aload_n 0, 1) := by decide +kernel
theorem dX5_read_6 : decode cX5_read 6 = .ok (.iconst (-1), 1) := by decide +kernel
theorem dX5_read_7 : decode cX5_read 7 = .ok (.putfield 37, 3) := by decide +kernel
theorem dX5_read_10 : decode cX5_read 10 = .ok (.iload_n 1, 1) := by decide +kernel
theorem dX5_read_11 : decode cX5_read 11 = .ok (.iconst 0, 1) := by decide +kernel
theorem dX5_read_12 : decode cX5_read 12 = .ok (.iconst 3, 1) := by decide +kernel
theorem dX5_read_13 : decode cX5_read 13 = .ok (.invokestatic 53, 3) := by decide +kernel
theorem dX5_read_16 : decode cX5_read 16 = .ok (.ifCond .ne 5, 3) := by decide +kernel
theorem dX5_read_19 : decode cX5_read 19 = .ok (.iconst 0, 1) := by decide +kernel
theorem dX5_read_20 : decode cX5_read 20 = .ok (.ireturn, 1) := by decide +kernel
theorem dX5_read_21 : decode cX5_read 21 = .ok (.aload_n 0, 1) := by decide +kernel
theorem dX5_read_22 : decode cX5_read 22 = .ok (.getfield 14, 3) := by decide +kernel
theorem dX5_read_25 : decode cX5_read 25 = .ok (.invokevirtual 57, 3) := by decide +kernel
theorem dX5_read_28 : decode cX5_read 28 = .ok (.pop, 1) := by decide +kernel
theorem dX5_read_29 : decode cX5_read 29 = .ok (.aload_n 0, 1) := by decide +kernel
theorem dX5_read_30 : decode cX5_read 30 = .ok (.getfield 20, 3) := by decide +kernel
theorem dX5_read_33 : decode cX5_read 33 = .ok (.invokevirtual 57, 3) := by decide +kernel
theorem dX5_read_36 : decode cX5_read 36 = .ok (.pop, 1) := by decide +kernel
theorem dX5_read_37 : decode cX5_read 37 = .ok (.aload_n 0, 1) := by decide +kernel
theorem dX5_read_38 : decode cX5_read 38 = .ok (.getfield 45, 3) := by decide +kernel
theorem dX5_read_41 : decode cX5_read 41 = .ok (.invokevirtual 61, 3) := by decide +kernel
theorem dX5_read_44 : decode cX5_read 44 = .ok (.iconst 1, 1) := by decide +kernel
theorem dX5_read_45 : decode cX5_read 45 = .ok (.istore_n 2, 1) := by decide +kernel
theorem dX5_read_46 : decode cX5_read 46 = .ok (.iconst 0, 1) := by decide +kernel
theorem dX5_read_47 : decode cX5_read 47 = .ok (.istore_n 3, 1) := by decide +kernel
theorem dX5_read_48 : decode cX5_read 48 = .ok (.iload_n 3, 1) := by decide +kernel
theorem dX5_read_49 : decode cX5_read 49 = .ok (.bipush 16, 2) := by decide +kernel
theorem dX5_read_51 : decode cX5_read 51 = .ok (.if_icmp .gt 65, 3) := by decide +kernel
theorem dX5_read_54 : decode cX5_read 54 = .ok (.iload_n 2, 1) := by decide +kernel
theorem dX5_read_55 : decode cX5_read 55 = .ok (.ifCond .eq 61, 3) := by decide +kernel
theorem dX5_read_58 : decode cX5_read 58 = .ok (.aload_n 0, 1) := by decide +kernel
theorem dX5_read_59 : decode cX5_read 59 = .ok (.getfield 45, 3) := by decide +kernel
theorem dX5_read_62 : decode cX5_read 62 = .ok (.invokevirtual 64, 3) := by decide +kernel
theorem dX5_read_65 : decode cX5_read 65 = .ok (.sipush 256, 3) := by decide +kernel
theorem dX5_read_68 : decode cX5_read 68 = .ok (.if_icmp .eq 48, 3) := by decide +kernel
theorem dX5_read_71 : decode cX5_read 71 = .ok (.iload_n 1, 1) := by decide +kernel
theorem dX5_read_72 : decode cX5_read 72 = .ok (.ifCond .ne 8, 3) := by decide +kernel
theorem dX5_read_75 : decode cX5_read 75 = .ok (.aload_n 0, 1) := by decide +kernel
theorem dX5_read_76 : decode cX5_read 76 = .ok (.invokevirtual 67, 3) := by decide +kernel
theorem dX5_read_79 : decode cX5_read 79 = .ok (.istore_n 2, 1) := by decide +kernel
theorem dX5_read_80 : decode cX5_read 80 = .ok (.iload_n 1, 1) := by decide +kernel
theorem dX5_read_81 : decode cX5_read 81 = .ok (.iconst 1, 1) := by decide +kernel
theorem dX5_read_82 : decode cX5_read 82 = .ok (.if_icmp .ne 8, 3) := by decide +kernel
theorem dX5_read_85 : decode cX5_read 85 = .ok (.aload_n 0, 1) := by decide +kernel
theorem dX5_read_86 : decode cX5_read 86 = .ok (.invokevirtual 71, 3) := by decide +kernel
theorem dX5_read_89 : decode cX5_read 89 = .ok (.istore_n 2, 1) := by decide +kernel
theorem dX5_read_90 : decode cX5_read 90 = .ok (.iload_n 1, 1) := by decide +kernel
theorem dX5_read_91 : decode cX5_read 91 = .ok (.iconst 2, 1) := by decide +kernel
theorem dX5_read_92 : decode cX5_read 92 = .ok (.if_icmp .ne 8, 3) := by decide +kernel
theorem dX5_read_95 : decode cX5_read 95 = .ok (.aload_n 0, 1) := by decide +kernel
theorem dX5_read_96 : decode cX5_read 96 = .ok (.invokevirtual 74, 3) := by decide +kernel
theorem dX5_read_99 : decode cX5_read 99 = .ok (.istore_n 2, 1) := by decide +kernel
theorem dX5_read_100 : decode cX5_read 100 = .ok (.iload_n 1, 1) := by decide +kernel
theorem dX5_read_101 : decode cX5_read 101 = .ok (.iconst 3, 1) := by decide +kernel
theorem dX5_read_102 : decode cX5_read 102 = .ok (.if_icmp .ne 8, 3) := by decide +kernel
theorem dX5_read_105 : decode cX5_read 105 = .ok (.aload_n 0, 1) := by decide +kernel
theorem dX5_read_106 : decode cX5_read 106 = .ok (.invokevirtual 77, 3) := by decide +kernel
theorem dX5_read_109 : decode cX5_read 109 = .ok (.istore_n 2, 1) := by decide +kernel
theorem dX5_read_110 : decode cX5_read 110 = .ok (.iinc 3 1, 3) := by decide +kernel
theorem dX5_read_113 : decode cX5_read 113 = .ok (.goto (-65), 3) := by decide +kernel
theorem dX5_read_116 : decode cX5_read 116 = .ok (.iload_n 2, 1) := by decide +kernel
theorem dX5_read_117 : decode cX5_read 117 = .ok (.ifCond .ne 14, 3) := by decide +kernel
theorem dX5_read_120 : decode cX5_read 120 = .ok (.aload_n 0, 1) := by decide +kernel
theorem dX5_read_121 : decode cX5_read 121 = .ok (.aload_n 0, 1) := by decide +kernel
theorem dX5_read_122 : decode cX5_read 122 = .ok (.getfield 45, 3) := by decide +kernel
theorem dX5_read_125 : decode cX5_read 125 = .ok (.invokevirtual 80, 3) := by decide +kernel
theorem dX5_read_128 : decode cX5_read 128 = .ok (.putfield 37, 3) := by decide +kernel
theorem dX5_read_131 : decode cX5_read 131 = .ok (.iload_n 2, 1) := by decide +kernel
theorem dX5_read_132 : decode cX5_read 132 = .ok (.ireturn, 1) := by decide +kernel
theorem dX5_refuse_0 : decode cX5_refuse 0 = .ok (.aload_n 0, 1) := by decide +kernel
theorem dX5_refuse_1 : decode cX5_refuse 1 = .ok (.iload_n 1, 1) := by decide +kernel
theorem dX5_refuse_2 : decode cX5_refuse 2 = .ok (.putfield 34, 3) := by decide +kernel
theorem dX5_refuse_5 : decode cX5_refuse 5 = .ok (.iconst 0, 1) := by decide +kernel
theorem dX5_refuse_6 : decode cX5_refuse 6 = .ok (.ireturn, 1) := by decide +kernel
theorem dX5_take_0 : decode cX5_take 0 = .ok (.aload_n 0, 1) := by decide +kernel
theorem dX5_take_1 : decode cX5_take 1 = .ok (.getfield 45, 3) := by decide +kernel
theorem dX5_take_4 : decode cX5_take 4 = .ok (.invokevirtual 64, 3) := by decide +kernel
theorem dX5_take_7 : decode cX5_take 7 = .ok (.iload_n 1, 1) := by decide +kernel
theorem dX5_take_8 : decode cX5_take 8 = .ok (.if_icmp .eq 9, 3) := by decide +kernel
theorem dX5_take_11 : decode cX5_take 11 = .ok (.aload_n 0, 1) := by decide +kernel
theorem dX5_take_12 : decode cX5_take 12 = .ok (.iconst 1, 1) := by decide +kernel
theorem dX5_take_13 : decode cX5_take 13 = .ok (.invokevirtual 83, 3) := by decide +kernel
theorem dX5_take_16 : decode cX5_take 16 = .ok (.ireturn, 1) := by decide +kernel
theorem dX5_take_17 : decode cX5_take 17 = .ok (.aload_n 0, 1) := by decide +kernel
theorem dX5_take_18 : decode cX5_take 18 = .ok (.getfield 45, 3) := by decide +kernel
theorem dX5_take_21 : decode cX5_take 21 = .ok (.invokevirtual 87, 3) := by decide +kernel
theorem dX5_take_24 : decode cX5_take 24 = .ok (.iconst 1, 1) := by decide +kernel
theorem dX5_take_25 : decode cX5_take 25 = .ok (.ireturn, 1) := by decide +kernel
theorem dX5_beginLine_0 : decode cX5_beginLine 0 = .ok (.aload_n 0, 1) := by decide +kernel
theorem dX5_beginLine_1 : decode cX5_beginLine 1 = .ok (.getfield 45, 3) := by decide +kernel
theorem dX5_beginLine_4 : decode cX5_beginLine 4 = .ok (.invokevirtual 64, 3) := by decide +kernel
theorem dX5_beginLine_7 : decode cX5_beginLine 7 = .ok (.iload_n 1, 1) := by decide +kernel
theorem dX5_beginLine_8 : decode cX5_beginLine 8 = .ok (.if_icmp .eq 9, 3) := by decide +kernel
theorem dX5_beginLine_11 : decode cX5_beginLine 11 = .ok (.aload_n 0, 1) := by decide +kernel
theorem dX5_beginLine_12 : decode cX5_beginLine 12 = .ok (.iconst 1, 1) := by decide +kernel
theorem dX5_beginLine_13 : decode cX5_beginLine 13 = .ok (.invokevirtual 83, 3) := by decide +kernel
theorem dX5_beginLine_16 : decode cX5_beginLine 16 = .ok (.ireturn, 1) := by decide +kernel
theorem dX5_beginLine_17 : decode cX5_beginLine 17 = .ok (.aload_n 0, 1) := by decide +kernel
theorem dX5_beginLine_18 : decode cX5_beginLine 18 = .ok (.getfield 14, 3) := by decide +kernel
theorem dX5_beginLine_21 : decode cX5_beginLine 21 = .ok (.invokevirtual 90, 3) := by decide +kernel
theorem dX5_beginLine_24 : decode cX5_beginLine 24 = .ok (.ifCond .eq 9, 3) := by decide +kernel
theorem dX5_beginLine_27 : decode cX5_beginLine 27 = .ok (.aload_n 0, 1) := by decide +kernel
theorem dX5_beginLine_28 : decode cX5_beginLine 28 = .ok (.iconst 3, 1) := by decide +kernel
theorem dX5_beginLine_29 : decode cX5_beginLine 29 = .ok (.invokevirtual 83, 3) := by decide +kernel
theorem dX5_beginLine_32 : decode cX5_beginLine 32 = .ok (.ireturn, 1) := by decide +kernel
theorem dX5_beginLine_33 : decode cX5_beginLine 33 = .ok (.aload_n 0, 1) := by decide +kernel
theorem dX5_beginLine_34 : decode cX5_beginLine 34 = .ok (.getfield 45, 3) := by decide +kernel
theorem dX5_beginLine_37 : decode cX5_beginLine 37 = .ok (.invokevirtual 87, 3) := by decide +kernel
theorem dX5_beginLine_40 : decode cX5_beginLine 40 = .ok (.iconst 1, 1) := by decide +kernel
theorem dX5_beginLine_41 : decode cX5_beginLine 41 = .ok (.ireturn, 1) := by decide +kernel
theorem dX5_takeNumber_0 : decode cX5_takeNumber 0 = .ok (.aload_n 0, 1) := by decide +kernel
theorem dX5_takeNumber_1 : decode cX5_takeNumber 1 = .ok (.getfield 45, 3) := by decide +kernel
theorem dX5_takeNumber_4 : decode cX5_takeNumber 4 = .ok (.invokevirtual 93, 3) := by decide +kernel
theorem dX5_takeNumber_7 : decode cX5_takeNumber 7 = .ok (.istore 4, 2) := by decide +kernel
theorem dX5_takeNumber_9 : decode cX5_takeNumber 9 = .ok (.iload 4, 2) := by decide +kernel
theorem dX5_takeNumber_11 : decode cX5_takeNumber 11 = .ok (.iload_n 1, 1) := by decide +kernel
theorem dX5_takeNumber_12 : decode cX5_takeNumber 12 = .ok (.iload_n 2, 1) := by decide +kernel
theorem dX5_takeNumber_13 : decode cX5_takeNumber 13 = .ok (.invokestatic 53, 3) := by decide +kernel
theorem dX5_takeNumber_16 : decode cX5_takeNumber 16 = .ok (.ifCond .eq 13, 3) := by decide +kernel
theorem dX5_takeNumber_19 : decode cX5_takeNumber 19 = .ok (.iload 4, 2) := by decide +kernel
theorem dX5_takeNumber_21 : decode cX5_takeNumber 21 = .ok (.iload_n 3, 1) := by decide +kernel
theorem dX5_takeNumber_22 : decode cX5_takeNumber 22 = .ok (.if_icmp .eq 7, 3) := by decide +kernel
theorem dX5_takeNumber_25 : decode cX5_takeNumber 25 = .ok (.iconst 1, 1) := by decide +kernel
theorem dX5_takeNumber_26 : decode cX5_takeNumber 26 = .ok (.goto 4, 3) := by decide +kernel
theorem dX5_takeNumber_29 : decode cX5_takeNumber 29 = .ok (.iconst 0, 1) := by decide +kernel
theorem dX5_takeNumber_30 : decode cX5_takeNumber 30 = .ok (.istore 5, 2) := by decide +kernel
theorem dX5_takeNumber_32 : decode cX5_takeNumber 32 = .ok (.aload_n 0, 1) := by decide +kernel
theorem dX5_takeNumber_33 : decode cX5_takeNumber 33 = .ok (.getfield 45, 3) := by decide +kernel
theorem dX5_takeNumber_36 : decode cX5_takeNumber 36 = .ok (.invokevirtual 64, 3) := by decide +kernel
theorem dX5_takeNumber_39 : decode cX5_takeNumber 39 = .ok (.sipush 257, 3) := by decide +kernel
theorem dX5_takeNumber_42 : decode cX5_takeNumber 42 = .ok (.if_icmp .ne 8, 3) := by decide +kernel
theorem dX5_takeNumber_45 : decode cX5_takeNumber 45 = .ok (.iload 5, 2) := by decide +kernel
theorem dX5_takeNumber_47 : decode cX5_takeNumber 47 = .ok (.ifCond .ne 28, 3) := by decide +kernel
theorem dX5_takeNumber_50 : decode cX5_takeNumber 50 = .ok (.aload_n 0, 1) := by decide +kernel
theorem dX5_takeNumber_51 : decode cX5_takeNumber 51 = .ok (.aload_n 0, 1) := by decide +kernel
theorem dX5_takeNumber_52 : decode cX5_takeNumber 52 = .ok (.getfield 45, 3) := by decide +kernel
theorem dX5_takeNumber_55 : decode cX5_takeNumber 55 = .ok (.invokevirtual 64, 3) := by decide +kernel
theorem dX5_takeNumber_58 : decode cX5_takeNumber 58 = .ok (.sipush 257, 3) := by decide +kernel
theorem dX5_takeNumber_61 : decode cX5_takeNumber 61 = .ok (.if_icmp .ne 7, 3) := by decide +kernel
theorem dX5_takeNumber_64 : decode cX5_takeNumber 64 = .ok (.iconst 2, 1) := by decide +kernel
theorem dX5_takeNumber_65 : decode cX5_takeNumber 65 = .ok (.goto 4, 3) := by decide +kernel
theorem dX5_takeNumber_68 : decode cX5_takeNumber 68 = .ok (.iconst 1, 1) := by decide +kernel
theorem dX5_takeNumber_69 : decode cX5_takeNumber 69 = .ok (.invokevirtual 83, 3) := by decide +kernel
theorem dX5_takeNumber_72 : decode cX5_takeNumber 72 = .ok (.pop, 1) := by decide +kernel
theorem dX5_takeNumber_73 : decode cX5_takeNumber 73 = .ok (.iconst (-1), 1) := by decide +kernel
theorem dX5_takeNumber_74 : decode cX5_takeNumber 74 = .ok (.ireturn, 1) := by decide +kernel
theorem dX5_takeNumber_75 : decode cX5_takeNumber 75 = .ok (.aload_n 0, 1) := by decide +kernel
theorem dX5_takeNumber_76 : decode cX5_takeNumber 76 = .ok (.getfield 45, 3) := by decide +kernel
theorem dX5_takeNumber_79 : decode cX5_takeNumber 79 = .ok (.invokevirtual 87, 3) := by decide +kernel
theorem dX5_takeNumber_82 : decode cX5_takeNumber 82 = .ok (.iload 4, 2) := by decide +kernel
theorem dX5_takeNumber_84 : decode cX5_takeNumber 84 = .ok (.ireturn, 1) := by decide +kernel
theorem dX5_takePorch_0 : decode cX5_takePorch 0 = .ok (.aload_n 0, 1) := by decide +kernel
theorem dX5_takePorch_1 : decode cX5_takePorch 1 = .ok (.iconst 0, 1) := by decide +kernel
theorem dX5_takePorch_2 : decode cX5_takePorch 2 = .ok (.aload_n 0, 1) := by decide +kernel
theorem dX5_takePorch_3 : decode cX5_takePorch 3 = .ok (.getfield 49, 3) := by decide +kernel
theorem dX5_takePorch_6 : decode cX5_takePorch 6 = .ok (.getfield 96, 3) := by decide +kernel
theorem dX5_takePorch_9 : decode cX5_takePorch 9 = .ok (.iconst 1, 1) := by decide +kernel
theorem dX5_takePorch_10 : decode cX5_takePorch 10 = .ok (.isub, 1) := by decide +kernel
theorem dX5_takePorch_11 : decode cX5_takePorch 11 = .ok (.iconst (-1), 1) := by decide +kernel
theorem dX5_takePorch_12 : decode cX5_takePorch 12 = .ok (.invokevirtual 101, 3) := by decide +kernel
theorem dX5_takePorch_15 : decode cX5_takePorch 15 = .ok (.ireturn, 1) := by decide +kernel
theorem dX5_takePerson_0 : decode cX5_takePerson 0 = .ok (.aload_n 0, 1) := by decide +kernel
theorem dX5_takePerson_1 : decode cX5_takePerson 1 = .ok (.iconst 0, 1) := by decide +kernel
theorem dX5_takePerson_2 : decode cX5_takePerson 2 = .ok (.aload_n 0, 1) := by decide +kernel
theorem dX5_takePerson_3 : decode cX5_takePerson 3 = .ok (.getfield 49, 3) := by decide +kernel
theorem dX5_takePerson_6 : decode cX5_takePerson 6 = .ok (.getfield 105, 3) := by decide +kernel
theorem dX5_takePerson_9 : decode cX5_takePerson 9 = .ok (.iconst 1, 1) := by decide +kernel
theorem dX5_takePerson_10 : decode cX5_takePerson 10 = .ok (.isub, 1) := by decide +kernel
theorem dX5_takePerson_11 : decode cX5_takePerson 11 = .ok (.iconst (-1), 1) := by decide +kernel
theorem dX5_takePerson_12 : decode cX5_takePerson 12 = .ok (.invokevirtual 101, 3) := by decide +kernel
theorem dX5_takePerson_15 : decode cX5_takePerson 15 = .ok (.ireturn, 1) := by decide +kernel
theorem dX5_takeMinute_0 : decode cX5_takeMinute 0 = .ok (.aload_n 0, 1) := by decide +kernel
theorem dX5_takeMinute_1 : decode cX5_takeMinute 1 = .ok (.iconst 0, 1) := by decide +kernel
theorem dX5_takeMinute_2 : decode cX5_takeMinute 2 = .ok (.bipush 59, 2) := by decide +kernel
theorem dX5_takeMinute_4 : decode cX5_takeMinute 4 = .ok (.iconst (-1), 1) := by decide +kernel
theorem dX5_takeMinute_5 : decode cX5_takeMinute 5 = .ok (.invokevirtual 101, 3) := by decide +kernel
theorem dX5_takeMinute_8 : decode cX5_takeMinute 8 = .ok (.ireturn, 1) := by decide +kernel
theorem dX5_readCall_0 : decode cX5_readCall 0 = .ok (.aload_n 0, 1) := by decide +kernel
theorem dX5_readCall_1 : decode cX5_readCall 1 = .ok (.sipush 280, 3) := by decide +kernel
theorem dX5_readCall_4 : decode cX5_readCall 4 = .ok (.invokevirtual 108, 3) := by decide +kernel
theorem dX5_readCall_7 : decode cX5_readCall 7 = .ok (.ifCond .ne 5, 3) := by decide +kernel
theorem dX5_readCall_10 : decode cX5_readCall 10 = .ok (.iconst 0, 1) := by decide +kernel
theorem dX5_readCall_11 : decode cX5_readCall 11 = .ok (.ireturn, 1) := by decide +kernel
theorem dX5_readCall_12 : decode cX5_readCall 12 = .ok (.aload_n 0, 1) := by decide +kernel
theorem dX5_readCall_13 : decode cX5_readCall 13 = .ok (.invokevirtual 111, 3) := by decide +kernel
theorem dX5_readCall_16 : decode cX5_readCall 16 = .ok (.istore_n 1, 1) := by decide +kernel
theorem dX5_readCall_17 : decode cX5_readCall 17 = .ok (.iload_n 1, 1) := by decide +kernel
theorem dX5_readCall_18 : decode cX5_readCall 18 = .ok (.iconst (-1), 1) := by decide +kernel
theorem dX5_readCall_19 : decode cX5_readCall 19 = .ok (.if_icmp .eq 13, 3) := by decide +kernel
theorem dX5_readCall_22 : decode cX5_readCall 22 = .ok (.aload_n 0, 1) := by decide +kernel
theorem dX5_readCall_23 : decode cX5_readCall 23 = .ok (.sipush 281, 3) := by decide +kernel
theorem dX5_readCall_26 : decode cX5_readCall 26 = .ok (.invokevirtual 114, 3) := by decide +kernel
theorem dX5_readCall_29 : decode cX5_readCall 29 = .ok (.ifCond .ne 5, 3) := by decide +kernel
theorem dX5_readCall_32 : decode cX5_readCall 32 = .ok (.iconst 0, 1) := by decide +kernel
theorem dX5_readCall_33 : decode cX5_readCall 33 = .ok (.ireturn, 1) := by decide +kernel
theorem dX5_readCall_34 : decode cX5_readCall 34 = .ok (.aload_n 0, 1) := by decide +kernel
theorem dX5_readCall_35 : decode cX5_readCall 35 = .ok (.invokevirtual 117, 3) := by decide +kernel
theorem dX5_readCall_38 : decode cX5_readCall 38 = .ok (.istore_n 2, 1) := by decide +kernel
theorem dX5_readCall_39 : decode cX5_readCall 39 = .ok (.iload_n 2, 1) := by decide +kernel
theorem dX5_readCall_40 : decode cX5_readCall 40 = .ok (.iconst (-1), 1) := by decide +kernel
theorem dX5_readCall_41 : decode cX5_readCall 41 = .ok (.if_icmp .eq 13, 3) := by decide +kernel
theorem dX5_readCall_44 : decode cX5_readCall 44 = .ok (.aload_n 0, 1) := by decide +kernel
theorem dX5_readCall_45 : decode cX5_readCall 45 = .ok (.sipush 282, 3) := by decide +kernel
theorem dX5_readCall_48 : decode cX5_readCall 48 = .ok (.invokevirtual 114, 3) := by decide +kernel
theorem dX5_readCall_51 : decode cX5_readCall 51 = .ok (.ifCond .ne 5, 3) := by decide +kernel
theorem dX5_readCall_54 : decode cX5_readCall 54 = .ok (.iconst 0, 1) := by decide +kernel
theorem dX5_readCall_55 : decode cX5_readCall 55 = .ok (.ireturn, 1) := by decide +kernel
theorem dX5_readCall_56 : decode cX5_readCall 56 = .ok (.aload_n 0, 1) := by decide +kernel
theorem dX5_readCall_57 : decode cX5_readCall 57 = .ok (.invokevirtual 120, 3) := by decide +kernel
theorem dX5_readCall_60 : decode cX5_readCall 60 = .ok (.istore_n 3, 1) := by decide +kernel
theorem dX5_readCall_61 : decode cX5_readCall 61 = .ok (.iload_n 3, 1) := by decide +kernel
theorem dX5_readCall_62 : decode cX5_readCall 62 = .ok (.iconst (-1), 1) := by decide +kernel
theorem dX5_readCall_63 : decode cX5_readCall 63 = .ok (.if_icmp .eq 13, 3) := by decide +kernel
theorem dX5_readCall_66 : decode cX5_readCall 66 = .ok (.aload_n 0, 1) := by decide +kernel
theorem dX5_readCall_67 : decode cX5_readCall 67 = .ok (.sipush 283, 3) := by decide +kernel
theorem dX5_readCall_70 : decode cX5_readCall 70 = .ok (.invokevirtual 114, 3) := by decide +kernel
theorem dX5_readCall_73 : decode cX5_readCall 73 = .ok (.ifCond .ne 5, 3) := by decide +kernel
theorem dX5_readCall_76 : decode cX5_readCall 76 = .ok (.iconst 0, 1) := by decide +kernel
theorem dX5_readCall_77 : decode cX5_readCall 77 = .ok (.ireturn, 1) := by decide +kernel
theorem dX5_readCall_78 : decode cX5_readCall 78 = .ok (.aload_n 0, 1) := by decide +kernel
theorem dX5_readCall_79 : decode cX5_readCall 79 = .ok (.iconst 1, 1) := by decide +kernel
theorem dX5_readCall_80 : decode cX5_readCall 80 = .ok (.bipush 60, 2) := by decide +kernel
theorem dX5_readCall_82 : decode cX5_readCall 82 = .ok (.iconst (-1), 1) := by decide +kernel
theorem dX5_readCall_83 : decode cX5_readCall 83 = .ok (.invokevirtual 101, 3) := by decide +kernel
theorem dX5_readCall_86 : decode cX5_readCall 86 = .ok (.istore 4, 2) := by decide +kernel
theorem dX5_readCall_88 : decode cX5_readCall 88 = .ok (.iload 4, 2) := by decide +kernel
theorem dX5_readCall_90 : decode cX5_readCall 90 = .ok (.iconst (-1), 1) := by decide +kernel
theorem dX5_readCall_91 : decode cX5_readCall 91 = .ok (.if_icmp .eq 12, 3) := by decide +kernel
theorem dX5_readCall_94 : decode cX5_readCall 94 = .ok (.aload_n 0, 1) := by decide +kernel
theorem dX5_readCall_95 : decode cX5_readCall 95 = .ok (.bipush 59, 2) := by decide +kernel
theorem dX5_readCall_97 : decode cX5_readCall 97 = .ok (.invokevirtual 114, 3) := by decide +kernel
theorem dX5_readCall_100 : decode cX5_readCall 100 = .ok (.ifCond .ne 5, 3) := by decide +kernel
theorem dX5_readCall_103 : decode cX5_readCall 103 = .ok (.iconst 0, 1) := by decide +kernel
theorem dX5_readCall_104 : decode cX5_readCall 104 = .ok (.ireturn, 1) := by decide +kernel
theorem dX5_readCall_105 : decode cX5_readCall 105 = .ok (.aload_n 0, 1) := by decide +kernel
theorem dX5_readCall_106 : decode cX5_readCall 106 = .ok (.getfield 14, 3) := by decide +kernel
theorem dX5_readCall_109 : decode cX5_readCall 109 = .ok (.iload_n 1, 1) := by decide +kernel
theorem dX5_readCall_110 : decode cX5_readCall 110 = .ok (.iload_n 2, 1) := by decide +kernel
theorem dX5_readCall_111 : decode cX5_readCall 111 = .ok (.iload_n 3, 1) := by decide +kernel
theorem dX5_readCall_112 : decode cX5_readCall 112 = .ok (.iload 4, 2) := by decide +kernel
theorem dX5_readCall_114 : decode cX5_readCall 114 = .ok (.iconst 0, 1) := by decide +kernel
theorem dX5_readCall_115 : decode cX5_readCall 115 = .ok (.invokevirtual 123, 3) := by decide +kernel
theorem dX5_readCall_118 : decode cX5_readCall 118 = .ok (.iconst (-1), 1) := by decide +kernel
theorem dX5_readCall_119 : decode cX5_readCall 119 = .ok (.if_icmp .eq 7, 3) := by decide +kernel
theorem dX5_readCall_122 : decode cX5_readCall 122 = .ok (.iconst 1, 1) := by decide +kernel
theorem dX5_readCall_123 : decode cX5_readCall 123 = .ok (.goto 4, 3) := by decide +kernel
theorem dX5_readCall_126 : decode cX5_readCall 126 = .ok (.iconst 0, 1) := by decide +kernel
theorem dX5_readCall_127 : decode cX5_readCall 127 = .ok (.ireturn, 1) := by decide +kernel
theorem dX5_readEvening_0 : decode cX5_readEvening 0 = .ok (.aload_n 0, 1) := by decide +kernel
theorem dX5_readEvening_1 : decode cX5_readEvening 1 = .ok (.sipush 284, 3) := by decide +kernel
theorem dX5_readEvening_4 : decode cX5_readEvening 4 = .ok (.invokevirtual 108, 3) := by decide +kernel
theorem dX5_readEvening_7 : decode cX5_readEvening 7 = .ok (.ifCond .ne 5, 3) := by decide +kernel
theorem dX5_readEvening_10 : decode cX5_readEvening 10 = .ok (.iconst 0, 1) := by decide +kernel
theorem dX5_readEvening_11 : decode cX5_readEvening 11 = .ok (.ireturn, 1) := by decide +kernel
theorem dX5_readEvening_12 : decode cX5_readEvening 12 = .ok (.aload_n 0, 1) := by decide +kernel
theorem dX5_readEvening_13 : decode cX5_readEvening 13 = .ok (.iconst 0, 1) := by decide +kernel
theorem dX5_readEvening_14 : decode cX5_readEvening 14 = .ok (.sipush 999, 3) := by decide +kernel
theorem dX5_readEvening_17 : decode cX5_readEvening 17 = .ok (.iconst (-1), 1) := by decide +kernel
theorem dX5_readEvening_18 : decode cX5_readEvening 18 = .ok (.invokevirtual 101, 3) := by decide +kernel
theorem dX5_readEvening_21 : decode cX5_readEvening 21 = .ok (.istore_n 1, 1) := by decide +kernel
theorem dX5_readEvening_22 : decode cX5_readEvening 22 = .ok (.iload_n 1, 1) := by decide +kernel
theorem dX5_readEvening_23 : decode cX5_readEvening 23 = .ok (.iconst (-1), 1) := by decide +kernel
theorem dX5_readEvening_24 : decode cX5_readEvening 24 = .ok (.if_icmp .ne 5, 3) := by decide +kernel
theorem dX5_readEvening_27 : decode cX5_readEvening 27 = .ok (.iconst 0, 1) := by decide +kernel
theorem dX5_readEvening_28 : decode cX5_readEvening 28 = .ok (.ireturn, 1) := by decide +kernel
theorem dX5_readEvening_29 : decode cX5_readEvening 29 = .ok (.aload_n 0, 1) := by decide +kernel
theorem dX5_readEvening_30 : decode cX5_readEvening 30 = .ok (.getfield 45, 3) := by decide +kernel
theorem dX5_readEvening_33 : decode cX5_readEvening 33 = .ok (.invokevirtual 64, 3) := by decide +kernel
theorem dX5_readEvening_36 : decode cX5_readEvening 36 = .ok (.istore_n 2, 1) := by decide +kernel
theorem dX5_readEvening_37 : decode cX5_readEvening 37 = .ok (.iload_n 2, 1) := by decide +kernel
theorem dX5_readEvening_38 : decode cX5_readEvening 38 = .ok (.sipush 285, 3) := by decide +kernel
theorem dX5_readEvening_41 : decode cX5_readEvening 41 = .ok (.sipush 288, 3) := by decide +kernel
theorem dX5_readEvening_44 : decode cX5_readEvening 44 = .ok (.invokestatic 53, 3) := by decide +kernel
theorem dX5_readEvening_47 : decode cX5_readEvening 47 = .ok (.ifCond .ne 9, 3) := by decide +kernel
theorem dX5_readEvening_50 : decode cX5_readEvening 50 = .ok (.aload_n 0, 1) := by decide +kernel
theorem dX5_readEvening_51 : decode cX5_readEvening 51 = .ok (.iconst 1, 1) := by decide +kernel
theorem dX5_readEvening_52 : decode cX5_readEvening 52 = .ok (.invokevirtual 83, 3) := by decide +kernel
theorem dX5_readEvening_55 : decode cX5_readEvening 55 = .ok (.ireturn, 1) := by decide +kernel
theorem dX5_readEvening_56 : decode cX5_readEvening 56 = .ok (.aload_n 0, 1) := by decide +kernel
theorem dX5_readEvening_57 : decode cX5_readEvening 57 = .ok (.getfield 45, 3) := by decide +kernel
theorem dX5_readEvening_60 : decode cX5_readEvening 60 = .ok (.invokevirtual 87, 3) := by decide +kernel
theorem dX5_readEvening_63 : decode cX5_readEvening 63 = .ok (.iload_n 2, 1) := by decide +kernel
theorem dX5_readEvening_64 : decode cX5_readEvening 64 = .ok (.sipush 287, 3) := by decide +kernel
theorem dX5_readEvening_67 : decode cX5_readEvening 67 = .ok (.if_icmp .ne 10, 3) := by decide +kernel
theorem dX5_readEvening_70 : decode cX5_readEvening 70 = .ok (.aload_n 0, 1) := by decide +kernel
theorem dX5_readEvening_71 : decode cX5_readEvening 71 = .ok (.invokevirtual 117, 3) := by decide +kernel
theorem dX5_readEvening_74 : decode cX5_readEvening 74 = .ok (.goto 7, 3) := by decide +kernel
theorem dX5_readEvening_77 : decode cX5_readEvening 77 = .ok (.aload_n 0, 1) := by decide +kernel
theorem dX5_readEvening_78 : decode cX5_readEvening 78 = .ok (.invokevirtual 120, 3) := by decide +kernel
theorem dX5_readEvening_81 : decode cX5_readEvening 81 = .ok (.istore_n 3, 1) := by decide +kernel
theorem dX5_readEvening_82 : decode cX5_readEvening 82 = .ok (.iload_n 3, 1) := by decide +kernel
theorem dX5_readEvening_83 : decode cX5_readEvening 83 = .ok (.iconst (-1), 1) := by decide +kernel
theorem dX5_readEvening_84 : decode cX5_readEvening 84 = .ok (.if_icmp .ne 5, 3) := by decide +kernel
theorem dX5_readEvening_87 : decode cX5_readEvening 87 = .ok (.iconst 0, 1) := by decide +kernel
theorem dX5_readEvening_88 : decode cX5_readEvening 88 = .ok (.ireturn, 1) := by decide +kernel
theorem dX5_readEvening_89 : decode cX5_readEvening 89 = .ok (.iconst 0, 1) := by decide +kernel
theorem dX5_readEvening_90 : decode cX5_readEvening 90 = .ok (.istore 4, 2) := by decide +kernel
theorem dX5_readEvening_92 : decode cX5_readEvening 92 = .ok (.iload_n 2, 1) := by decide +kernel
theorem dX5_readEvening_93 : decode cX5_readEvening 93 = .ok (.sipush 285, 3) := by decide +kernel
theorem dX5_readEvening_96 : decode cX5_readEvening 96 = .ok (.if_icmp .ne 13, 3) := by decide +kernel
theorem dX5_readEvening_99 : decode cX5_readEvening 99 = .ok (.aload_n 0, 1) := by decide +kernel
theorem dX5_readEvening_100 : decode cX5_readEvening 100 = .ok (.iconst 0, 1) := by decide +kernel
theorem dX5_readEvening_101 : decode cX5_readEvening 101 = .ok (.bipush 99, 2) := by decide +kernel
theorem dX5_readEvening_103 : decode cX5_readEvening 103 = .ok (.iconst (-1), 1) := by decide +kernel
theorem dX5_readEvening_104 : decode cX5_readEvening 104 = .ok (.invokevirtual 101, 3) := by decide +kernel
theorem dX5_readEvening_107 : decode cX5_readEvening 107 = .ok (.istore 4, 2) := by decide +kernel
theorem dX5_readEvening_109 : decode cX5_readEvening 109 = .ok (.iload_n 2, 1) := by decide +kernel
theorem dX5_readEvening_110 : decode cX5_readEvening 110 = .ok (.sipush 288, 3) := by decide +kernel
theorem dX5_readEvening_113 : decode cX5_readEvening 113 = .ok (.if_icmp .ne 9, 3) := by decide +kernel
theorem dX5_readEvening_116 : decode cX5_readEvening 116 = .ok (.aload_n 0, 1) := by decide +kernel
theorem dX5_readEvening_117 : decode cX5_readEvening 117 = .ok (.invokevirtual 111, 3) := by decide +kernel
theorem dX5_readEvening_120 : decode cX5_readEvening 120 = .ok (.istore 4, 2) := by decide +kernel
theorem dX5_readEvening_122 : decode cX5_readEvening 122 = .ok (.iload 4, 2) := by decide +kernel
theorem dX5_readEvening_124 : decode cX5_readEvening 124 = .ok (.iconst (-1), 1) := by decide +kernel
theorem dX5_readEvening_125 : decode cX5_readEvening 125 = .ok (.if_icmp .eq 12, 3) := by decide +kernel
theorem dX5_readEvening_128 : decode cX5_readEvening 128 = .ok (.aload_n 0, 1) := by decide +kernel
theorem dX5_readEvening_129 : decode cX5_readEvening 129 = .ok (.bipush 59, 2) := by decide +kernel
theorem dX5_readEvening_131 : decode cX5_readEvening 131 = .ok (.invokevirtual 114, 3) := by decide +kernel
theorem dX5_readEvening_134 : decode cX5_readEvening 134 = .ok (.ifCond .ne 5, 3) := by decide +kernel
theorem dX5_readEvening_137 : decode cX5_readEvening 137 = .ok (.iconst 0, 1) := by decide +kernel
theorem dX5_readEvening_138 : decode cX5_readEvening 138 = .ok (.ireturn, 1) := by decide +kernel
theorem dX5_readEvening_139 : decode cX5_readEvening 139 = .ok (.aload_n 0, 1) := by decide +kernel
theorem dX5_readEvening_140 : decode cX5_readEvening 140 = .ok (.getfield 14, 3) := by decide +kernel
theorem dX5_readEvening_143 : decode cX5_readEvening 143 = .ok (.iload_n 1, 1) := by decide +kernel
theorem dX5_readEvening_144 : decode cX5_readEvening 144 = .ok (.iload_n 2, 1) := by decide +kernel
theorem dX5_readEvening_145 : decode cX5_readEvening 145 = .ok (.iload_n 3, 1) := by decide +kernel
theorem dX5_readEvening_146 : decode cX5_readEvening 146 = .ok (.iload 4, 2) := by decide +kernel
theorem dX5_readEvening_148 : decode cX5_readEvening 148 = .ok (.iconst 0, 1) := by decide +kernel
theorem dX5_readEvening_149 : decode cX5_readEvening 149 = .ok (.invokevirtual 123, 3) := by decide +kernel
theorem dX5_readEvening_152 : decode cX5_readEvening 152 = .ok (.iconst (-1), 1) := by decide +kernel
theorem dX5_readEvening_153 : decode cX5_readEvening 153 = .ok (.if_icmp .eq 7, 3) := by decide +kernel
theorem dX5_readEvening_156 : decode cX5_readEvening 156 = .ok (.iconst 1, 1) := by decide +kernel
theorem dX5_readEvening_157 : decode cX5_readEvening 157 = .ok (.goto 4, 3) := by decide +kernel
theorem dX5_readEvening_160 : decode cX5_readEvening 160 = .ok (.iconst 0, 1) := by decide +kernel
theorem dX5_readEvening_161 : decode cX5_readEvening 161 = .ok (.ireturn, 1) := by decide +kernel
theorem dX5_readStreetLine_0 : decode cX5_readStreetLine 0 = .ok (.aload_n 0, 1) := by decide +kernel
theorem dX5_readStreetLine_1 : decode cX5_readStreetLine 1 = .ok (.sipush 289, 3) := by decide +kernel
theorem dX5_readStreetLine_4 : decode cX5_readStreetLine 4 = .ok (.invokevirtual 108, 3) := by decide +kernel
theorem dX5_readStreetLine_7 : decode cX5_readStreetLine 7 = .ok (.ifCond .ne 5, 3) := by decide +kernel
theorem dX5_readStreetLine_10 : decode cX5_readStreetLine 10 = .ok (.iconst 0, 1) := by decide +kernel
theorem dX5_readStreetLine_11 : decode cX5_readStreetLine 11 = .ok (.ireturn, 1) := by decide +kernel
theorem dX5_readStreetLine_12 : decode cX5_readStreetLine 12 = .ok (.aload_n 0, 1) := by decide +kernel
theorem dX5_readStreetLine_13 : decode cX5_readStreetLine 13 = .ok (.invokevirtual 120, 3) := by decide +kernel
theorem dX5_readStreetLine_16 : decode cX5_readStreetLine 16 = .ok (.istore_n 1, 1) := by decide +kernel
theorem dX5_readStreetLine_17 : decode cX5_readStreetLine 17 = .ok (.iload_n 1, 1) := by decide +kernel
theorem dX5_readStreetLine_18 : decode cX5_readStreetLine 18 = .ok (.iconst (-1), 1) := by decide +kernel
theorem dX5_readStreetLine_19 : decode cX5_readStreetLine 19 = .ok (.if_icmp .eq 13, 3) := by decide +kernel
theorem dX5_readStreetLine_22 : decode cX5_readStreetLine 22 = .ok (.aload_n 0, 1) := by decide +kernel
theorem dX5_readStreetLine_23 : decode cX5_readStreetLine 23 = .ok (.sipush 290, 3) := by decide +kernel
theorem dX5_readStreetLine_26 : decode cX5_readStreetLine 26 = .ok (.invokevirtual 114, 3) := by decide +kernel
theorem dX5_readStreetLine_29 : decode cX5_readStreetLine 29 = .ok (.ifCond .ne 5, 3) := by decide +kernel
theorem dX5_readStreetLine_32 : decode cX5_readStreetLine 32 = .ok (.iconst 0, 1) := by decide +kernel
theorem dX5_readStreetLine_33 : decode cX5_readStreetLine 33 = .ok (.ireturn, 1) := by decide +kernel
theorem dX5_readStreetLine_34 : decode cX5_readStreetLine 34 = .ok (.aload_n 0, 1) := by decide +kernel
theorem dX5_readStreetLine_35 : decode cX5_readStreetLine 35 = .ok (.iconst 0, 1) := by decide +kernel
theorem dX5_readStreetLine_36 : decode cX5_readStreetLine 36 = .ok (.aload_n 0, 1) := by decide +kernel
theorem dX5_readStreetLine_37 : decode cX5_readStreetLine 37 = .ok (.getfield 49, 3) := by decide +kernel
theorem dX5_readStreetLine_40 : decode cX5_readStreetLine 40 = .ok (.getfield 96, 3) := by decide +kernel
theorem dX5_readStreetLine_43 : decode cX5_readStreetLine 43 = .ok (.iconst 1, 1) := by decide +kernel
theorem dX5_readStreetLine_44 : decode cX5_readStreetLine 44 = .ok (.isub, 1) := by decide +kernel
theorem dX5_readStreetLine_45 : decode cX5_readStreetLine 45 = .ok (.iload_n 1, 1) := by decide +kernel
theorem dX5_readStreetLine_46 : decode cX5_readStreetLine 46 = .ok (.invokevirtual 101, 3) := by decide +kernel
theorem dX5_readStreetLine_49 : decode cX5_readStreetLine 49 = .ok (.istore_n 2, 1) := by decide +kernel
theorem dX5_readStreetLine_50 : decode cX5_readStreetLine 50 = .ok (.iload_n 2, 1) := by decide +kernel
theorem dX5_readStreetLine_51 : decode cX5_readStreetLine 51 = .ok (.iconst (-1), 1) := by decide +kernel
theorem dX5_readStreetLine_52 : decode cX5_readStreetLine 52 = .ok (.if_icmp .ne 5, 3) := by decide +kernel
theorem dX5_readStreetLine_55 : decode cX5_readStreetLine 55 = .ok (.iconst 0, 1) := by decide +kernel
theorem dX5_readStreetLine_56 : decode cX5_readStreetLine 56 = .ok (.ireturn, 1) := by decide +kernel
theorem dX5_readStreetLine_57 : decode cX5_readStreetLine 57 = .ok (.aload_n 0, 1) := by decide +kernel
theorem dX5_readStreetLine_58 : decode cX5_readStreetLine 58 = .ok (.iconst 1, 1) := by decide +kernel
theorem dX5_readStreetLine_59 : decode cX5_readStreetLine 59 = .ok (.bipush 99, 2) := by decide +kernel
theorem dX5_readStreetLine_61 : decode cX5_readStreetLine 61 = .ok (.iconst (-1), 1) := by decide +kernel
theorem dX5_readStreetLine_62 : decode cX5_readStreetLine 62 = .ok (.invokevirtual 101, 3) := by decide +kernel
theorem dX5_readStreetLine_65 : decode cX5_readStreetLine 65 = .ok (.istore_n 3, 1) := by decide +kernel
theorem dX5_readStreetLine_66 : decode cX5_readStreetLine 66 = .ok (.iload_n 3, 1) := by decide +kernel
theorem dX5_readStreetLine_67 : decode cX5_readStreetLine 67 = .ok (.iconst (-1), 1) := by decide +kernel
theorem dX5_readStreetLine_68 : decode cX5_readStreetLine 68 = .ok (.if_icmp .eq 12, 3) := by decide +kernel
theorem dX5_readStreetLine_71 : decode cX5_readStreetLine 71 = .ok (.aload_n 0, 1) := by decide +kernel
theorem dX5_readStreetLine_72 : decode cX5_readStreetLine 72 = .ok (.bipush 59, 2) := by decide +kernel
theorem dX5_readStreetLine_74 : decode cX5_readStreetLine 74 = .ok (.invokevirtual 114, 3) := by decide +kernel
theorem dX5_readStreetLine_77 : decode cX5_readStreetLine 77 = .ok (.ifCond .ne 5, 3) := by decide +kernel
theorem dX5_readStreetLine_80 : decode cX5_readStreetLine 80 = .ok (.iconst 0, 1) := by decide +kernel
theorem dX5_readStreetLine_81 : decode cX5_readStreetLine 81 = .ok (.ireturn, 1) := by decide +kernel
theorem dX5_readStreetLine_82 : decode cX5_readStreetLine 82 = .ok (.aload_n 0, 1) := by decide +kernel
theorem dX5_readStreetLine_83 : decode cX5_readStreetLine 83 = .ok (.getfield 14, 3) := by decide +kernel
theorem dX5_readStreetLine_86 : decode cX5_readStreetLine 86 = .ok (.iload_n 1, 1) := by decide +kernel
theorem dX5_readStreetLine_87 : decode cX5_readStreetLine 87 = .ok (.iload_n 2, 1) := by decide +kernel
theorem dX5_readStreetLine_88 : decode cX5_readStreetLine 88 = .ok (.iload_n 3, 1) := by decide +kernel
theorem dX5_readStreetLine_89 : decode cX5_readStreetLine 89 = .ok (.iconst 0, 1) := by decide +kernel
theorem dX5_readStreetLine_90 : decode cX5_readStreetLine 90 = .ok (.iconst 0, 1) := by decide +kernel
theorem dX5_readStreetLine_91 : decode cX5_readStreetLine 91 = .ok (.invokevirtual 123, 3) := by decide +kernel
theorem dX5_readStreetLine_94 : decode cX5_readStreetLine 94 = .ok (.iconst (-1), 1) := by decide +kernel
theorem dX5_readStreetLine_95 : decode cX5_readStreetLine 95 = .ok (.if_icmp .eq 7, 3) := by decide +kernel
theorem dX5_readStreetLine_98 : decode cX5_readStreetLine 98 = .ok (.iconst 1, 1) := by decide +kernel
theorem dX5_readStreetLine_99 : decode cX5_readStreetLine 99 = .ok (.goto 4, 3) := by decide +kernel
theorem dX5_readStreetLine_102 : decode cX5_readStreetLine 102 = .ok (.iconst 0, 1) := by decide +kernel
theorem dX5_readStreetLine_103 : decode cX5_readStreetLine 103 = .ok (.ireturn, 1) := by decide +kernel
theorem dX5_readLawLine_0 : decode cX5_readLawLine 0 = .ok (.aload_n 0, 1) := by decide +kernel
theorem dX5_readLawLine_1 : decode cX5_readLawLine 1 = .ok (.getfield 45, 3) := by decide +kernel
theorem dX5_readLawLine_4 : decode cX5_readLawLine 4 = .ok (.invokevirtual 64, 3) := by decide +kernel
theorem dX5_readLawLine_7 : decode cX5_readLawLine 7 = .ok (.istore_n 1, 1) := by decide +kernel
theorem dX5_readLawLine_8 : decode cX5_readLawLine 8 = .ok (.iload_n 1, 1) := by decide +kernel
theorem dX5_readLawLine_9 : decode cX5_readLawLine 9 = .ok (.sipush 260, 3) := by decide +kernel
theorem dX5_readLawLine_12 : decode cX5_readLawLine 12 = .ok (.sipush 262, 3) := by decide +kernel
theorem dX5_readLawLine_15 : decode cX5_readLawLine 15 = .ok (.invokestatic 53, 3) := by decide +kernel
theorem dX5_readLawLine_18 : decode cX5_readLawLine 18 = .ok (.ifCond .ne 9, 3) := by decide +kernel
theorem dX5_readLawLine_21 : decode cX5_readLawLine 21 = .ok (.aload_n 0, 1) := by decide +kernel
theorem dX5_readLawLine_22 : decode cX5_readLawLine 22 = .ok (.iconst 1, 1) := by decide +kernel
theorem dX5_readLawLine_23 : decode cX5_readLawLine 23 = .ok (.invokevirtual 83, 3) := by decide +kernel
theorem dX5_readLawLine_26 : decode cX5_readLawLine 26 = .ok (.ireturn, 1) := by decide +kernel
theorem dX5_readLawLine_27 : decode cX5_readLawLine 27 = .ok (.aload_n 0, 1) := by decide +kernel
theorem dX5_readLawLine_28 : decode cX5_readLawLine 28 = .ok (.iload_n 1, 1) := by decide +kernel
theorem dX5_readLawLine_29 : decode cX5_readLawLine 29 = .ok (.invokevirtual 108, 3) := by decide +kernel
theorem dX5_readLawLine_32 : decode cX5_readLawLine 32 = .ok (.ifCond .ne 5, 3) := by decide +kernel
theorem dX5_readLawLine_35 : decode cX5_readLawLine 35 = .ok (.iconst 0, 1) := by decide +kernel
theorem dX5_readLawLine_36 : decode cX5_readLawLine 36 = .ok (.ireturn, 1) := by decide +kernel
theorem dX5_readLawLine_37 : decode cX5_readLawLine 37 = .ok (.aload_n 0, 1) := by decide +kernel
theorem dX5_readLawLine_38 : decode cX5_readLawLine 38 = .ok (.getfield 20, 3) := by decide +kernel
theorem dX5_readLawLine_41 : decode cX5_readLawLine 41 = .ok (.invokevirtual 127, 3) := by decide +kernel
theorem dX5_readLawLine_44 : decode cX5_readLawLine 44 = .ok (.istore_n 2, 1) := by decide +kernel
theorem dX5_readLawLine_45 : decode cX5_readLawLine 45 = .ok (.aload_n 0, 1) := by decide +kernel
theorem dX5_readLawLine_46 : decode cX5_readLawLine 46 = .ok (.invokevirtual 130, 3) := by decide +kernel
theorem dX5_readLawLine_49 : decode cX5_readLawLine 49 = .ok (.ifCond .ne 5, 3) := by decide +kernel
theorem dX5_readLawLine_52 : decode cX5_readLawLine 52 = .ok (.iconst 0, 1) := by decide +kernel
theorem dX5_readLawLine_53 : decode cX5_readLawLine 53 = .ok (.ireturn, 1) := by decide +kernel
theorem dX5_readLawLine_54 : decode cX5_readLawLine 54 = .ok (.aload_n 0, 1) := by decide +kernel
theorem dX5_readLawLine_55 : decode cX5_readLawLine 55 = .ok (.getfield 20, 3) := by decide +kernel
theorem dX5_readLawLine_58 : decode cX5_readLawLine 58 = .ok (.invokevirtual 127, 3) := by decide +kernel
theorem dX5_readLawLine_61 : decode cX5_readLawLine 61 = .ok (.istore_n 3, 1) := by decide +kernel
theorem dX5_readLawLine_62 : decode cX5_readLawLine 62 = .ok (.aload_n 0, 1) := by decide +kernel
theorem dX5_readLawLine_63 : decode cX5_readLawLine 63 = .ok (.getfield 45, 3) := by decide +kernel
theorem dX5_readLawLine_66 : decode cX5_readLawLine 66 = .ok (.invokevirtual 64, 3) := by decide +kernel
theorem dX5_readLawLine_69 : decode cX5_readLawLine 69 = .ok (.sipush 263, 3) := by decide +kernel
theorem dX5_readLawLine_72 : decode cX5_readLawLine 72 = .ok (.if_icmp .ne 19, 3) := by decide +kernel
theorem dX5_readLawLine_75 : decode cX5_readLawLine 75 = .ok (.aload_n 0, 1) := by decide +kernel
theorem dX5_readLawLine_76 : decode cX5_readLawLine 76 = .ok (.getfield 45, 3) := by decide +kernel
theorem dX5_readLawLine_79 : decode cX5_readLawLine 79 = .ok (.invokevirtual 87, 3) := by decide +kernel
theorem dX5_readLawLine_82 : decode cX5_readLawLine 82 = .ok (.aload_n 0, 1) := by decide +kernel
theorem dX5_readLawLine_83 : decode cX5_readLawLine 83 = .ok (.invokevirtual 133, 3) := by decide +kernel
theorem dX5_readLawLine_86 : decode cX5_readLawLine 86 = .ok (.ifCond .ne 5, 3) := by decide +kernel
theorem dX5_readLawLine_89 : decode cX5_readLawLine 89 = .ok (.iconst 0, 1) := by decide +kernel
theorem dX5_readLawLine_90 : decode cX5_readLawLine 90 = .ok (.ireturn, 1) := by decide +kernel
theorem dX5_readLawLine_91 : decode cX5_readLawLine 91 = .ok (.aload_n 0, 1) := by decide +kernel
theorem dX5_readLawLine_92 : decode cX5_readLawLine 92 = .ok (.bipush 59, 2) := by decide +kernel
theorem dX5_readLawLine_94 : decode cX5_readLawLine 94 = .ok (.invokevirtual 114, 3) := by decide +kernel
theorem dX5_readLawLine_97 : decode cX5_readLawLine 97 = .ok (.ifCond .ne 5, 3) := by decide +kernel
theorem dX5_readLawLine_100 : decode cX5_readLawLine 100 = .ok (.iconst 0, 1) := by decide +kernel
theorem dX5_readLawLine_101 : decode cX5_readLawLine 101 = .ok (.ireturn, 1) := by decide +kernel
theorem dX5_readLawLine_102 : decode cX5_readLawLine 102 = .ok (.aload_n 0, 1) := by decide +kernel
theorem dX5_readLawLine_103 : decode cX5_readLawLine 103 = .ok (.getfield 14, 3) := by decide +kernel
theorem dX5_readLawLine_106 : decode cX5_readLawLine 106 = .ok (.iload_n 1, 1) := by decide +kernel
theorem dX5_readLawLine_107 : decode cX5_readLawLine 107 = .ok (.iload_n 2, 1) := by decide +kernel
theorem dX5_readLawLine_108 : decode cX5_readLawLine 108 = .ok (.iload_n 3, 1) := by decide +kernel
theorem dX5_readLawLine_109 : decode cX5_readLawLine 109 = .ok (.aload_n 0, 1) := by decide +kernel
theorem dX5_readLawLine_110 : decode cX5_readLawLine 110 = .ok (.getfield 20, 3) := by decide +kernel
theorem dX5_readLawLine_113 : decode cX5_readLawLine 113 = .ok (.invokevirtual 127, 3) := by decide +kernel
theorem dX5_readLawLine_116 : decode cX5_readLawLine 116 = .ok (.iconst 0, 1) := by decide +kernel
theorem dX5_readLawLine_117 : decode cX5_readLawLine 117 = .ok (.invokevirtual 123, 3) := by decide +kernel
theorem dX5_readLawLine_120 : decode cX5_readLawLine 120 = .ok (.iconst (-1), 1) := by decide +kernel
theorem dX5_readLawLine_121 : decode cX5_readLawLine 121 = .ok (.if_icmp .eq 7, 3) := by decide +kernel
theorem dX5_readLawLine_124 : decode cX5_readLawLine 124 = .ok (.iconst 1, 1) := by decide +kernel
theorem dX5_readLawLine_125 : decode cX5_readLawLine 125 = .ok (.goto 4, 3) := by decide +kernel
theorem dX5_readLawLine_128 : decode cX5_readLawLine 128 = .ok (.iconst 0, 1) := by decide +kernel
theorem dX5_readLawLine_129 : decode cX5_readLawLine 129 = .ok (.ireturn, 1) := by decide +kernel
theorem dX5_readSum_0 : decode cX5_readSum 0 = .ok (.iconst (-1), 1) := by decide +kernel
theorem dX5_readSum_1 : decode cX5_readSum 1 = .ok (.istore_n 1, 1) := by decide +kernel
theorem dX5_readSum_2 : decode cX5_readSum 2 = .ok (.iconst (-1), 1) := by decide +kernel
theorem dX5_readSum_3 : decode cX5_readSum 3 = .ok (.istore_n 2, 1) := by decide +kernel
theorem dX5_readSum_4 : decode cX5_readSum 4 = .ok (.iconst 0, 1) := by decide +kernel
theorem dX5_readSum_5 : decode cX5_readSum 5 = .ok (.istore_n 3, 1) := by decide +kernel
theorem dX5_readSum_6 : decode cX5_readSum 6 = .ok (.iload_n 3, 1) := by decide +kernel
theorem dX5_readSum_7 : decode cX5_readSum 7 = .ok (.sipush 400, 3) := by decide +kernel
theorem dX5_readSum_10 : decode cX5_readSum 10 = .ok (.if_icmp .ge 104, 3) := by decide +kernel
theorem dX5_readSum_13 : decode cX5_readSum 13 = .ok (.aload_n 0, 1) := by decide +kernel
theorem dX5_readSum_14 : decode cX5_readSum 14 = .ok (.iload_n 2, 1) := by decide +kernel
theorem dX5_readSum_15 : decode cX5_readSum 15 = .ok (.bipush 47, 2) := by decide +kernel
theorem dX5_readSum_17 : decode cX5_readSum 17 = .ok (.if_icmp .ne 7, 3) := by decide +kernel
theorem dX5_readSum_20 : decode cX5_readSum 20 = .ok (.iconst 1, 1) := by decide +kernel
theorem dX5_readSum_21 : decode cX5_readSum 21 = .ok (.goto 4, 3) := by decide +kernel
theorem dX5_readSum_24 : decode cX5_readSum 24 = .ok (.iconst 0, 1) := by decide +kernel
theorem dX5_readSum_25 : decode cX5_readSum 25 = .ok (.invokevirtual 136, 3) := by decide +kernel
theorem dX5_readSum_28 : decode cX5_readSum 28 = .ok (.ifCond .ne 5, 3) := by decide +kernel
theorem dX5_readSum_31 : decode cX5_readSum 31 = .ok (.iconst 0, 1) := by decide +kernel
theorem dX5_readSum_32 : decode cX5_readSum 32 = .ok (.ireturn, 1) := by decide +kernel
theorem dX5_readSum_33 : decode cX5_readSum 33 = .ok (.iload_n 2, 1) := by decide +kernel
theorem dX5_readSum_34 : decode cX5_readSum 34 = .ok (.iconst (-1), 1) := by decide +kernel
theorem dX5_readSum_35 : decode cX5_readSum 35 = .ok (.if_icmp .eq 13, 3) := by decide +kernel
theorem dX5_readSum_38 : decode cX5_readSum 38 = .ok (.aload_n 0, 1) := by decide +kernel
theorem dX5_readSum_39 : decode cX5_readSum 39 = .ok (.getfield 20, 3) := by decide +kernel
theorem dX5_readSum_42 : decode cX5_readSum 42 = .ok (.iload_n 2, 1) := by decide +kernel
theorem dX5_readSum_43 : decode cX5_readSum 43 = .ok (.ineg, 1) := by decide +kernel
theorem dX5_readSum_44 : decode cX5_readSum 44 = .ok (.invokevirtual 140, 3) := by decide +kernel
theorem dX5_readSum_47 : decode cX5_readSum 47 = .ok (.pop, 1) := by decide +kernel
theorem dX5_readSum_48 : decode cX5_readSum 48 = .ok (.aload_n 0, 1) := by decide +kernel
theorem dX5_readSum_49 : decode cX5_readSum 49 = .ok (.getfield 45, 3) := by decide +kernel
theorem dX5_readSum_52 : decode cX5_readSum 52 = .ok (.invokevirtual 64, 3) := by decide +kernel
theorem dX5_readSum_55 : decode cX5_readSum 55 = .ok (.istore_n 2, 1) := by decide +kernel
theorem dX5_readSum_56 : decode cX5_readSum 56 = .ok (.iload_n 2, 1) := by decide +kernel
theorem dX5_readSum_57 : decode cX5_readSum 57 = .ok (.bipush 42, 2) := by decide +kernel
theorem dX5_readSum_59 : decode cX5_readSum 59 = .ok (.if_icmp .eq 42, 3) := by decide +kernel
theorem dX5_readSum_62 : decode cX5_readSum 62 = .ok (.iload_n 2, 1) := by decide +kernel
theorem dX5_readSum_63 : decode cX5_readSum 63 = .ok (.bipush 47, 2) := by decide +kernel
theorem dX5_readSum_65 : decode cX5_readSum 65 = .ok (.if_icmp .eq 36, 3) := by decide +kernel
theorem dX5_readSum_68 : decode cX5_readSum 68 = .ok (.iload_n 1, 1) := by decide +kernel
theorem dX5_readSum_69 : decode cX5_readSum 69 = .ok (.iconst (-1), 1) := by decide +kernel
theorem dX5_readSum_70 : decode cX5_readSum 70 = .ok (.if_icmp .eq 13, 3) := by decide +kernel
theorem dX5_readSum_73 : decode cX5_readSum 73 = .ok (.aload_n 0, 1) := by decide +kernel
theorem dX5_readSum_74 : decode cX5_readSum 74 = .ok (.getfield 20, 3) := by decide +kernel
theorem dX5_readSum_77 : decode cX5_readSum 77 = .ok (.iload_n 1, 1) := by decide +kernel
theorem dX5_readSum_78 : decode cX5_readSum 78 = .ok (.ineg, 1) := by decide +kernel
theorem dX5_readSum_79 : decode cX5_readSum 79 = .ok (.invokevirtual 140, 3) := by decide +kernel
theorem dX5_readSum_82 : decode cX5_readSum 82 = .ok (.pop, 1) := by decide +kernel
theorem dX5_readSum_83 : decode cX5_readSum 83 = .ok (.iload_n 2, 1) := by decide +kernel
theorem dX5_readSum_84 : decode cX5_readSum 84 = .ok (.istore_n 1, 1) := by decide +kernel
theorem dX5_readSum_85 : decode cX5_readSum 85 = .ok (.iconst (-1), 1) := by decide +kernel
theorem dX5_readSum_86 : decode cX5_readSum 86 = .ok (.istore_n 2, 1) := by decide +kernel
theorem dX5_readSum_87 : decode cX5_readSum 87 = .ok (.iload_n 1, 1) := by decide +kernel
theorem dX5_readSum_88 : decode cX5_readSum 88 = .ok (.bipush 43, 2) := by decide +kernel
theorem dX5_readSum_90 : decode cX5_readSum 90 = .ok (.if_icmp .eq 11, 3) := by decide +kernel
theorem dX5_readSum_93 : decode cX5_readSum 93 = .ok (.iload_n 1, 1) := by decide +kernel
theorem dX5_readSum_94 : decode cX5_readSum 94 = .ok (.bipush 45, 2) := by decide +kernel
theorem dX5_readSum_96 : decode cX5_readSum 96 = .ok (.if_icmp .eq 5, 3) := by decide +kernel
theorem dX5_readSum_99 : decode cX5_readSum 99 = .ok (.iconst 1, 1) := by decide +kernel
theorem dX5_readSum_100 : decode cX5_readSum 100 = .ok (.ireturn, 1) := by decide +kernel
theorem dX5_readSum_101 : decode cX5_readSum 101 = .ok (.aload_n 0, 1) := by decide +kernel
theorem dX5_readSum_102 : decode cX5_readSum 102 = .ok (.getfield 45, 3) := by decide +kernel
theorem dX5_readSum_105 : decode cX5_readSum 105 = .ok (.invokevirtual 87, 3) := by decide +kernel
theorem dX5_readSum_108 : decode cX5_readSum 108 = .ok (.iinc 3 1, 3) := by decide +kernel
theorem dX5_readSum_111 : decode cX5_readSum 111 = .ok (.goto (-105), 3) := by decide +kernel
theorem dX5_readSum_114 : decode cX5_readSum 114 = .ok (.iconst 0, 1) := by decide +kernel
theorem dX5_readSum_115 : decode cX5_readSum 115 = .ok (.ireturn, 1) := by decide +kernel
theorem dX5_readOperand_0 : decode cX5_readOperand 0 = .ok (.aload_n 0, 1) := by decide +kernel
theorem dX5_readOperand_1 : decode cX5_readOperand 1 = .ok (.getfield 45, 3) := by decide +kernel
theorem dX5_readOperand_4 : decode cX5_readOperand 4 = .ok (.invokevirtual 64, 3) := by decide +kernel
theorem dX5_readOperand_7 : decode cX5_readOperand 7 = .ok (.istore_n 2, 1) := by decide +kernel
theorem dX5_readOperand_8 : decode cX5_readOperand 8 = .ok (.iload_n 1, 1) := by decide +kernel
theorem dX5_readOperand_9 : decode cX5_readOperand 9 = .ok (.ifCond .ne 20, 3) := by decide +kernel
theorem dX5_readOperand_12 : decode cX5_readOperand 12 = .ok (.iload_n 2, 1) := by decide +kernel
theorem dX5_readOperand_13 : decode cX5_readOperand 13 = .ok (.sipush 270, 3) := by decide +kernel
theorem dX5_readOperand_16 : decode cX5_readOperand 16 = .ok (.sipush 279, 3) := by decide +kernel
theorem dX5_readOperand_19 : decode cX5_readOperand 19 = .ok (.invokestatic 53, 3) := by decide +kernel
theorem dX5_readOperand_22 : decode cX5_readOperand 22 = .ok (.ifCond .eq 7, 3) := by decide +kernel
theorem dX5_readOperand_25 : decode cX5_readOperand 25 = .ok (.iconst 1, 1) := by decide +kernel
theorem dX5_readOperand_26 : decode cX5_readOperand 26 = .ok (.goto 4, 3) := by decide +kernel
theorem dX5_readOperand_29 : decode cX5_readOperand 29 = .ok (.iconst 0, 1) := by decide +kernel
theorem dX5_readOperand_30 : decode cX5_readOperand 30 = .ok (.istore_n 3, 1) := by decide +kernel
theorem dX5_readOperand_31 : decode cX5_readOperand 31 = .ok (.iload_n 2, 1) := by decide +kernel
theorem dX5_readOperand_32 : decode cX5_readOperand 32 = .ok (.sipush 257, 3) := by decide +kernel
theorem dX5_readOperand_35 : decode cX5_readOperand 35 = .ok (.if_icmp .eq 13, 3) := by decide +kernel
theorem dX5_readOperand_38 : decode cX5_readOperand 38 = .ok (.iload_n 3, 1) := by decide +kernel
theorem dX5_readOperand_39 : decode cX5_readOperand 39 = .ok (.ifCond .ne 9, 3) := by decide +kernel
theorem dX5_readOperand_42 : decode cX5_readOperand 42 = .ok (.aload_n 0, 1) := by decide +kernel
theorem dX5_readOperand_43 : decode cX5_readOperand 43 = .ok (.iconst 1, 1) := by decide +kernel
theorem dX5_readOperand_44 : decode cX5_readOperand 44 = .ok (.invokevirtual 83, 3) := by decide +kernel
theorem dX5_readOperand_47 : decode cX5_readOperand 47 = .ok (.ireturn, 1) := by decide +kernel
theorem dX5_readOperand_48 : decode cX5_readOperand 48 = .ok (.iload_n 1, 1) := by decide +kernel
theorem dX5_readOperand_49 : decode cX5_readOperand 49 = .ok (.ifCond .eq 19, 3) := by decide +kernel
theorem dX5_readOperand_52 : decode cX5_readOperand 52 = .ok (.aload_n 0, 1) := by decide +kernel
theorem dX5_readOperand_53 : decode cX5_readOperand 53 = .ok (.getfield 45, 3) := by decide +kernel
theorem dX5_readOperand_56 : decode cX5_readOperand 56 = .ok (.invokevirtual 93, 3) := by decide +kernel
theorem dX5_readOperand_59 : decode cX5_readOperand 59 = .ok (.ifCond .ne 9, 3) := by decide +kernel
theorem dX5_readOperand_62 : decode cX5_readOperand 62 = .ok (.aload_n 0, 1) := by decide +kernel
theorem dX5_readOperand_63 : decode cX5_readOperand 63 = .ok (.iconst 2, 1) := by decide +kernel
theorem dX5_readOperand_64 : decode cX5_readOperand 64 = .ok (.invokevirtual 83, 3) := by decide +kernel
theorem dX5_readOperand_67 : decode cX5_readOperand 67 = .ok (.ireturn, 1) := by decide +kernel
theorem dX5_readOperand_68 : decode cX5_readOperand 68 = .ok (.aload_n 0, 1) := by decide +kernel
theorem dX5_readOperand_69 : decode cX5_readOperand 69 = .ok (.getfield 20, 3) := by decide +kernel
theorem dX5_readOperand_72 : decode cX5_readOperand 72 = .ok (.iload_n 3, 1) := by decide +kernel
theorem dX5_readOperand_73 : decode cX5_readOperand 73 = .ok (.ifCond .eq 8, 3) := by decide +kernel
theorem dX5_readOperand_76 : decode cX5_readOperand 76 = .ok (.iload_n 2, 1) := by decide +kernel
theorem dX5_readOperand_77 : decode cX5_readOperand 77 = .ok (.ineg, 1) := by decide +kernel
theorem dX5_readOperand_78 : decode cX5_readOperand 78 = .ok (.goto 10, 3) := by decide +kernel
theorem dX5_readOperand_81 : decode cX5_readOperand 81 = .ok (.aload_n 0, 1) := by decide +kernel
theorem dX5_readOperand_82 : decode cX5_readOperand 82 = .ok (.getfield 45, 3) := by decide +kernel
theorem dX5_readOperand_85 : decode cX5_readOperand 85 = .ok (.invokevirtual 93, 3) := by decide +kernel
theorem dX5_readOperand_88 : decode cX5_readOperand 88 = .ok (.invokevirtual 140, 3) := by decide +kernel
theorem dX5_readOperand_91 : decode cX5_readOperand 91 = .ok (.pop, 1) := by decide +kernel
theorem dX5_readOperand_92 : decode cX5_readOperand 92 = .ok (.aload_n 0, 1) := by decide +kernel
theorem dX5_readOperand_93 : decode cX5_readOperand 93 = .ok (.getfield 45, 3) := by decide +kernel
theorem dX5_readOperand_96 : decode cX5_readOperand 96 = .ok (.invokevirtual 87, 3) := by decide +kernel
theorem dX5_readOperand_99 : decode cX5_readOperand 99 = .ok (.iconst 1, 1) := by decide +kernel
theorem dX5_readOperand_100 : decode cX5_readOperand 100 = .ok (.ireturn, 1) := by decide +kernel
theorem dX5_readConditions_0 : decode cX5_readConditions 0 = .ok (.aload_n 0, 1) := by decide +kernel
theorem dX5_readConditions_1 : decode cX5_readConditions 1 = .ok (.iconst 0, 1) := by decide +kernel
theorem dX5_readConditions_2 : decode cX5_readConditions 2 = .ok (.putfield 27, 3) := by decide +kernel
theorem dX5_readConditions_5 : decode cX5_readConditions 5 = .ok (.aload_n 0, 1) := by decide +kernel
theorem dX5_readConditions_6 : decode cX5_readConditions 6 = .ok (.iconst 0, 1) := by decide +kernel
theorem dX5_readConditions_7 : decode cX5_readConditions 7 = .ok (.putfield 31, 3) := by decide +kernel
theorem dX5_readConditions_10 : decode cX5_readConditions 10 = .ok (.iconst 0, 1) := by decide +kernel
theorem dX5_readConditions_11 : decode cX5_readConditions 11 = .ok (.istore_n 1, 1) := by decide +kernel
theorem dX5_readConditions_12 : decode cX5_readConditions 12 = .ok (.iload_n 1, 1) := by decide +kernel
theorem dX5_readConditions_13 : decode cX5_readConditions 13 = .ok (.sipush 400, 3) := by decide +kernel
theorem dX5_readConditions_16 : decode cX5_readConditions 16 = .ok (.if_icmp .ge 99, 3) := by decide +kernel
theorem dX5_readConditions_19 : decode cX5_readConditions 19 = .ok (.aload_n 0, 1) := by decide +kernel
theorem dX5_readConditions_20 : decode cX5_readConditions 20 = .ok (.invokevirtual 143, 3) := by decide +kernel
theorem dX5_readConditions_23 : decode cX5_readConditions 23 = .ok (.ifCond .eq 17, 3) := by decide +kernel
theorem dX5_readConditions_26 : decode cX5_readConditions 26 = .ok (.aload_n 0, 1) := by decide +kernel
theorem dX5_readConditions_27 : decode cX5_readConditions 27 = .ok (.invokevirtual 146, 3) := by decide +kernel
theorem dX5_readConditions_30 : decode cX5_readConditions 30 = .ok (.ifCond .eq 10, 3) := by decide +kernel
theorem dX5_readConditions_33 : decode cX5_readConditions 33 = .ok (.aload_n 0, 1) := by decide +kernel
theorem dX5_readConditions_34 : decode cX5_readConditions 34 = .ok (.invokevirtual 149, 3) := by decide +kernel
theorem dX5_readConditions_37 : decode cX5_readConditions 37 = .ok (.ifCond .ne 5, 3) := by decide +kernel
theorem dX5_readConditions_40 : decode cX5_readConditions 40 = .ok (.iconst 0, 1) := by decide +kernel
theorem dX5_readConditions_41 : decode cX5_readConditions 41 = .ok (.ireturn, 1) := by decide +kernel
theorem dX5_readConditions_42 : decode cX5_readConditions 42 = .ok (.aload_n 0, 1) := by decide +kernel
theorem dX5_readConditions_43 : decode cX5_readConditions 43 = .ok (.getfield 45, 3) := by decide +kernel
theorem dX5_readConditions_46 : decode cX5_readConditions 46 = .ok (.invokevirtual 64, 3) := by decide +kernel
theorem dX5_readConditions_49 : decode cX5_readConditions 49 = .ok (.istore_n 2, 1) := by decide +kernel
theorem dX5_readConditions_50 : decode cX5_readConditions 50 = .ok (.iload_n 2, 1) := by decide +kernel
theorem dX5_readConditions_51 : decode cX5_readConditions 51 = .ok (.sipush 265, 3) := by decide +kernel
theorem dX5_readConditions_54 : decode cX5_readConditions 54 = .ok (.if_icmp .eq 38, 3) := by decide +kernel
theorem dX5_readConditions_57 : decode cX5_readConditions 57 = .ok (.iload_n 2, 1) := by decide +kernel
theorem dX5_readConditions_58 : decode cX5_readConditions 58 = .ok (.sipush 264, 3) := by decide +kernel
theorem dX5_readConditions_61 : decode cX5_readConditions 61 = .ok (.if_icmp .eq 31, 3) := by decide +kernel
theorem dX5_readConditions_64 : decode cX5_readConditions 64 = .ok (.aload_n 0, 1) := by decide +kernel
theorem dX5_readConditions_65 : decode cX5_readConditions 65 = .ok (.sipush 264, 3) := by decide +kernel
theorem dX5_readConditions_68 : decode cX5_readConditions 68 = .ok (.invokevirtual 152, 3) := by decide +kernel
theorem dX5_readConditions_71 : decode cX5_readConditions 71 = .ok (.aload_n 0, 1) := by decide +kernel
theorem dX5_readConditions_72 : decode cX5_readConditions 72 = .ok (.getfield 27, 3) := by decide +kernel
theorem dX5_readConditions_75 : decode cX5_readConditions 75 = .ok (.ifCond .eq 11, 3) := by decide +kernel
theorem dX5_readConditions_78 : decode cX5_readConditions 78 = .ok (.aload_n 0, 1) := by decide +kernel
theorem dX5_readConditions_79 : decode cX5_readConditions 79 = .ok (.iconst 1, 1) := by decide +kernel
theorem dX5_readConditions_80 : decode cX5_readConditions 80 = .ok (.invokevirtual 83, 3) := by decide +kernel
theorem dX5_readConditions_83 : decode cX5_readConditions 83 = .ok (.ifCond .eq 7, 3) := by decide +kernel
theorem dX5_readConditions_86 : decode cX5_readConditions 86 = .ok (.iconst 1, 1) := by decide +kernel
theorem dX5_readConditions_87 : decode cX5_readConditions 87 = .ok (.goto 4, 3) := by decide +kernel
theorem dX5_readConditions_90 : decode cX5_readConditions 90 = .ok (.iconst 0, 1) := by decide +kernel
theorem dX5_readConditions_91 : decode cX5_readConditions 91 = .ok (.ireturn, 1) := by decide +kernel
theorem dX5_readConditions_92 : decode cX5_readConditions 92 = .ok (.aload_n 0, 1) := by decide +kernel
theorem dX5_readConditions_93 : decode cX5_readConditions 93 = .ok (.iload_n 2, 1) := by decide +kernel
theorem dX5_readConditions_94 : decode cX5_readConditions 94 = .ok (.invokevirtual 152, 3) := by decide +kernel
theorem dX5_readConditions_97 : decode cX5_readConditions 97 = .ok (.aload_n 0, 1) := by decide +kernel
theorem dX5_readConditions_98 : decode cX5_readConditions 98 = .ok (.iload_n 2, 1) := by decide +kernel
theorem dX5_readConditions_99 : decode cX5_readConditions 99 = .ok (.invokevirtual 156, 3) := by decide +kernel
theorem dX5_readConditions_102 : decode cX5_readConditions 102 = .ok (.aload_n 0, 1) := by decide +kernel
theorem dX5_readConditions_103 : decode cX5_readConditions 103 = .ok (.getfield 45, 3) := by decide +kernel
theorem dX5_readConditions_106 : decode cX5_readConditions 106 = .ok (.invokevirtual 87, 3) := by decide +kernel
theorem dX5_readConditions_109 : decode cX5_readConditions 109 = .ok (.iinc 1 1, 3) := by decide +kernel
theorem dX5_readConditions_112 : decode cX5_readConditions 112 = .ok (.goto (-100), 3) := by decide +kernel
theorem dX5_readConditions_115 : decode cX5_readConditions 115 = .ok (.iconst 0, 1) := by decide +kernel
theorem dX5_readConditions_116 : decode cX5_readConditions 116 = .ok (.ireturn, 1) := by decide +kernel
theorem dX5_readOpenings_0 : decode cX5_readOpenings 0 = .ok (.iconst 0, 1) := by decide +kernel
theorem dX5_readOpenings_1 : decode cX5_readOpenings 1 = .ok (.istore_n 1, 1) := by decide +kernel
theorem dX5_readOpenings_2 : decode cX5_readOpenings 2 = .ok (.iload_n 1, 1) := by decide +kernel
theorem dX5_readOpenings_3 : decode cX5_readOpenings 3 = .ok (.bipush 8, 2) := by decide +kernel
theorem dX5_readOpenings_5 : decode cX5_readOpenings 5 = .ok (.if_icmp .gt 69, 3) := by decide +kernel
theorem dX5_readOpenings_8 : decode cX5_readOpenings 8 = .ok (.aload_n 0, 1) := by decide +kernel
theorem dX5_readOpenings_9 : decode cX5_readOpenings 9 = .ok (.getfield 45, 3) := by decide +kernel
theorem dX5_readOpenings_12 : decode cX5_readOpenings 12 = .ok (.invokevirtual 64, 3) := by decide +kernel
theorem dX5_readOpenings_15 : decode cX5_readOpenings 15 = .ok (.istore_n 2, 1) := by decide +kernel
theorem dX5_readOpenings_16 : decode cX5_readOpenings 16 = .ok (.iload_n 2, 1) := by decide +kernel
theorem dX5_readOpenings_17 : decode cX5_readOpenings 17 = .ok (.bipush 40, 2) := by decide +kernel
theorem dX5_readOpenings_19 : decode cX5_readOpenings 19 = .ok (.if_icmp .eq 12, 3) := by decide +kernel
theorem dX5_readOpenings_22 : decode cX5_readOpenings 22 = .ok (.iload_n 2, 1) := by decide +kernel
theorem dX5_readOpenings_23 : decode cX5_readOpenings 23 = .ok (.sipush 266, 3) := by decide +kernel
theorem dX5_readOpenings_26 : decode cX5_readOpenings 26 = .ok (.if_icmp .eq 5, 3) := by decide +kernel
theorem dX5_readOpenings_29 : decode cX5_readOpenings 29 = .ok (.iconst 1, 1) := by decide +kernel
theorem dX5_readOpenings_30 : decode cX5_readOpenings 30 = .ok (.ireturn, 1) := by decide +kernel
theorem dX5_readOpenings_31 : decode cX5_readOpenings 31 = .ok (.aload_n 0, 1) := by decide +kernel
theorem dX5_readOpenings_32 : decode cX5_readOpenings 32 = .ok (.getfield 31, 3) := by decide +kernel
theorem dX5_readOpenings_35 : decode cX5_readOpenings 35 = .ok (.bipush 8, 2) := by decide +kernel
theorem dX5_readOpenings_37 : decode cX5_readOpenings 37 = .ok (.if_icmp .lt 9, 3) := by decide +kernel
theorem dX5_readOpenings_40 : decode cX5_readOpenings 40 = .ok (.aload_n 0, 1) := by decide +kernel
theorem dX5_readOpenings_41 : decode cX5_readOpenings 41 = .ok (.iconst 3, 1) := by decide +kernel
theorem dX5_readOpenings_42 : decode cX5_readOpenings 42 = .ok (.invokevirtual 83, 3) := by decide +kernel
theorem dX5_readOpenings_45 : decode cX5_readOpenings 45 = .ok (.ireturn, 1) := by decide +kernel
theorem dX5_readOpenings_46 : decode cX5_readOpenings 46 = .ok (.aload_n 0, 1) := by decide +kernel
theorem dX5_readOpenings_47 : decode cX5_readOpenings 47 = .ok (.iload_n 2, 1) := by decide +kernel
theorem dX5_readOpenings_48 : decode cX5_readOpenings 48 = .ok (.invokevirtual 156, 3) := by decide +kernel
theorem dX5_readOpenings_51 : decode cX5_readOpenings 51 = .ok (.aload_n 0, 1) := by decide +kernel
theorem dX5_readOpenings_52 : decode cX5_readOpenings 52 = .ok (.dup, 1) := by decide +kernel
theorem dX5_readOpenings_53 : decode cX5_readOpenings 53 = .ok (.getfield 31, 3) := by decide +kernel
theorem dX5_readOpenings_56 : decode cX5_readOpenings 56 = .ok (.iconst 1, 1) := by decide +kernel
theorem dX5_readOpenings_57 : decode cX5_readOpenings 57 = .ok (.iadd, 1) := by decide +kernel
theorem dX5_readOpenings_58 : decode cX5_readOpenings 58 = .ok (.putfield 31, 3) := by decide +kernel
theorem dX5_readOpenings_61 : decode cX5_readOpenings 61 = .ok (.aload_n 0, 1) := by decide +kernel
theorem dX5_readOpenings_62 : decode cX5_readOpenings 62 = .ok (.getfield 45, 3) := by decide +kernel
theorem dX5_readOpenings_65 : decode cX5_readOpenings 65 = .ok (.invokevirtual 87, 3) := by decide +kernel
theorem dX5_readOpenings_68 : decode cX5_readOpenings 68 = .ok (.iinc 1 1, 3) := by decide +kernel
theorem dX5_readOpenings_71 : decode cX5_readOpenings 71 = .ok (.goto (-69), 3) := by decide +kernel
theorem dX5_readOpenings_74 : decode cX5_readOpenings 74 = .ok (.iconst 1, 1) := by decide +kernel
theorem dX5_readOpenings_75 : decode cX5_readOpenings 75 = .ok (.ireturn, 1) := by decide +kernel
theorem dX5_readComparison_0 : decode cX5_readComparison 0 = .ok (.aload_n 0, 1) := by decide +kernel
theorem dX5_readComparison_1 : decode cX5_readComparison 1 = .ok (.invokevirtual 130, 3) := by decide +kernel
theorem dX5_readComparison_4 : decode cX5_readComparison 4 = .ok (.ifCond .ne 5, 3) := by decide +kernel
theorem dX5_readComparison_7 : decode cX5_readComparison 7 = .ok (.iconst 0, 1) := by decide +kernel
theorem dX5_readComparison_8 : decode cX5_readComparison 8 = .ok (.ireturn, 1) := by decide +kernel
theorem dX5_readComparison_9 : decode cX5_readComparison 9 = .ok (.aload_n 0, 1) := by decide +kernel
theorem dX5_readComparison_10 : decode cX5_readComparison 10 = .ok (.getfield 45, 3) := by decide +kernel
theorem dX5_readComparison_13 : decode cX5_readComparison 13 = .ok (.invokevirtual 64, 3) := by decide +kernel
theorem dX5_readComparison_16 : decode cX5_readComparison 16 = .ok (.istore_n 1, 1) := by decide +kernel
theorem dX5_readComparison_17 : decode cX5_readComparison 17 = .ok (.iload_n 1, 1) := by decide +kernel
theorem dX5_readComparison_18 : decode cX5_readComparison 18 = .ok (.bipush 60, 2) := by decide +kernel
theorem dX5_readComparison_20 : decode cX5_readComparison 20 = .ok (.if_icmp .eq 21, 3) := by decide +kernel
theorem dX5_readComparison_23 : decode cX5_readComparison 23 = .ok (.iload_n 1, 1) := by decide +kernel
theorem dX5_readComparison_24 : decode cX5_readComparison 24 = .ok (.bipush 61, 2) := by decide +kernel
theorem dX5_readComparison_26 : decode cX5_readComparison 26 = .ok (.if_icmp .eq 15, 3) := by decide +kernel
theorem dX5_readComparison_29 : decode cX5_readComparison 29 = .ok (.iload_n 1, 1) := by decide +kernel
theorem dX5_readComparison_30 : decode cX5_readComparison 30 = .ok (.bipush 62, 2) := by decide +kernel
theorem dX5_readComparison_32 : decode cX5_readComparison 32 = .ok (.if_icmp .eq 9, 3) := by decide +kernel
theorem dX5_readComparison_35 : decode cX5_readComparison 35 = .ok (.aload_n 0, 1) := by decide +kernel
theorem dX5_readComparison_36 : decode cX5_readComparison 36 = .ok (.iconst 1, 1) := by decide +kernel
theorem dX5_readComparison_37 : decode cX5_readComparison 37 = .ok (.invokevirtual 83, 3) := by decide +kernel
theorem dX5_readComparison_40 : decode cX5_readComparison 40 = .ok (.ireturn, 1) := by decide +kernel
theorem dX5_readComparison_41 : decode cX5_readComparison 41 = .ok (.aload_n 0, 1) := by decide +kernel
theorem dX5_readComparison_42 : decode cX5_readComparison 42 = .ok (.getfield 45, 3) := by decide +kernel
theorem dX5_readComparison_45 : decode cX5_readComparison 45 = .ok (.invokevirtual 87, 3) := by decide +kernel
theorem dX5_readComparison_48 : decode cX5_readComparison 48 = .ok (.aload_n 0, 1) := by decide +kernel
theorem dX5_readComparison_49 : decode cX5_readComparison 49 = .ok (.invokevirtual 130, 3) := by decide +kernel
theorem dX5_readComparison_52 : decode cX5_readComparison 52 = .ok (.ifCond .ne 5, 3) := by decide +kernel
theorem dX5_readComparison_55 : decode cX5_readComparison 55 = .ok (.iconst 0, 1) := by decide +kernel
theorem dX5_readComparison_56 : decode cX5_readComparison 56 = .ok (.ireturn, 1) := by decide +kernel
theorem dX5_readComparison_57 : decode cX5_readComparison 57 = .ok (.aload_n 0, 1) := by decide +kernel
theorem dX5_readComparison_58 : decode cX5_readComparison 58 = .ok (.getfield 20, 3) := by decide +kernel
theorem dX5_readComparison_61 : decode cX5_readComparison 61 = .ok (.iload_n 1, 1) := by decide +kernel
theorem dX5_readComparison_62 : decode cX5_readComparison 62 = .ok (.ineg, 1) := by decide +kernel
theorem dX5_readComparison_63 : decode cX5_readComparison 63 = .ok (.invokevirtual 140, 3) := by decide +kernel
theorem dX5_readComparison_66 : decode cX5_readComparison 66 = .ok (.pop, 1) := by decide +kernel
theorem dX5_readComparison_67 : decode cX5_readComparison 67 = .ok (.iconst 1, 1) := by decide +kernel
theorem dX5_readComparison_68 : decode cX5_readComparison 68 = .ok (.ireturn, 1) := by decide +kernel
theorem dX5_readClosings_0 : decode cX5_readClosings 0 = .ok (.aload_n 0, 1) := by decide +kernel
theorem dX5_readClosings_1 : decode cX5_readClosings 1 = .ok (.sipush 266, 3) := by decide +kernel
theorem dX5_readClosings_4 : decode cX5_readClosings 4 = .ok (.invokevirtual 152, 3) := by decide +kernel
theorem dX5_readClosings_7 : decode cX5_readClosings 7 = .ok (.iconst 0, 1) := by decide +kernel
theorem dX5_readClosings_8 : decode cX5_readClosings 8 = .ok (.istore_n 1, 1) := by decide +kernel
theorem dX5_readClosings_9 : decode cX5_readClosings 9 = .ok (.iload_n 1, 1) := by decide +kernel
theorem dX5_readClosings_10 : decode cX5_readClosings 10 = .ok (.bipush 8, 2) := by decide +kernel
theorem dX5_readClosings_12 : decode cX5_readClosings 12 = .ok (.if_icmp .gt 75, 3) := by decide +kernel
theorem dX5_readClosings_15 : decode cX5_readClosings 15 = .ok (.aload_n 0, 1) := by decide +kernel
theorem dX5_readClosings_16 : decode cX5_readClosings 16 = .ok (.getfield 45, 3) := by decide +kernel
theorem dX5_readClosings_19 : decode cX5_readClosings 19 = .ok (.invokevirtual 64, 3) := by decide +kernel
theorem dX5_readClosings_22 : decode cX5_readClosings 22 = .ok (.bipush 41, 2) := by decide +kernel
theorem dX5_readClosings_24 : decode cX5_readClosings 24 = .ok (.if_icmp .ne 63, 3) := by decide +kernel
theorem dX5_readClosings_27 : decode cX5_readClosings 27 = .ok (.aload_n 0, 1) := by decide +kernel
theorem dX5_readClosings_28 : decode cX5_readClosings 28 = .ok (.sipush 264, 3) := by decide +kernel
theorem dX5_readClosings_31 : decode cX5_readClosings 31 = .ok (.invokevirtual 152, 3) := by decide +kernel
theorem dX5_readClosings_34 : decode cX5_readClosings 34 = .ok (.aload_n 0, 1) := by decide +kernel
theorem dX5_readClosings_35 : decode cX5_readClosings 35 = .ok (.getfield 27, 3) := by decide +kernel
theorem dX5_readClosings_38 : decode cX5_readClosings 38 = .ok (.ifCond .ne 9, 3) := by decide +kernel
theorem dX5_readClosings_41 : decode cX5_readClosings 41 = .ok (.aload_n 0, 1) := by decide +kernel
theorem dX5_readClosings_42 : decode cX5_readClosings 42 = .ok (.iconst 1, 1) := by decide +kernel
theorem dX5_readClosings_43 : decode cX5_readClosings 43 = .ok (.invokevirtual 83, 3) := by decide +kernel
theorem dX5_readClosings_46 : decode cX5_readClosings 46 = .ok (.ireturn, 1) := by decide +kernel
theorem dX5_readClosings_47 : decode cX5_readClosings 47 = .ok (.aload_n 0, 1) := by decide +kernel
theorem dX5_readClosings_48 : decode cX5_readClosings 48 = .ok (.dup, 1) := by decide +kernel
theorem dX5_readClosings_49 : decode cX5_readClosings 49 = .ok (.getfield 27, 3) := by decide +kernel
theorem dX5_readClosings_52 : decode cX5_readClosings 52 = .ok (.iconst 1, 1) := by decide +kernel
theorem dX5_readClosings_53 : decode cX5_readClosings 53 = .ok (.isub, 1) := by decide +kernel
theorem dX5_readClosings_54 : decode cX5_readClosings 54 = .ok (.putfield 27, 3) := by decide +kernel
theorem dX5_readClosings_57 : decode cX5_readClosings 57 = .ok (.aload_n 0, 1) := by decide +kernel
theorem dX5_readClosings_58 : decode cX5_readClosings 58 = .ok (.dup, 1) := by decide +kernel
theorem dX5_readClosings_59 : decode cX5_readClosings 59 = .ok (.getfield 31, 3) := by decide +kernel
theorem dX5_readClosings_62 : decode cX5_readClosings 62 = .ok (.iconst 1, 1) := by decide +kernel
theorem dX5_readClosings_63 : decode cX5_readClosings 63 = .ok (.isub, 1) := by decide +kernel
theorem dX5_readClosings_64 : decode cX5_readClosings 64 = .ok (.putfield 31, 3) := by decide +kernel
theorem dX5_readClosings_67 : decode cX5_readClosings 67 = .ok (.aload_n 0, 1) := by decide +kernel
theorem dX5_readClosings_68 : decode cX5_readClosings 68 = .ok (.sipush 266, 3) := by decide +kernel
theorem dX5_readClosings_71 : decode cX5_readClosings 71 = .ok (.invokevirtual 152, 3) := by decide +kernel
theorem dX5_readClosings_74 : decode cX5_readClosings 74 = .ok (.aload_n 0, 1) := by decide +kernel
theorem dX5_readClosings_75 : decode cX5_readClosings 75 = .ok (.getfield 45, 3) := by decide +kernel
theorem dX5_readClosings_78 : decode cX5_readClosings 78 = .ok (.invokevirtual 87, 3) := by decide +kernel
theorem dX5_readClosings_81 : decode cX5_readClosings 81 = .ok (.iinc 1 1, 3) := by decide +kernel
theorem dX5_readClosings_84 : decode cX5_readClosings 84 = .ok (.goto (-75), 3) := by decide +kernel
theorem dX5_readClosings_87 : decode cX5_readClosings 87 = .ok (.iconst 1, 1) := by decide +kernel
theorem dX5_readClosings_88 : decode cX5_readClosings 88 = .ok (.ireturn, 1) := by decide +kernel
theorem dX5_putOff_0 : decode cX5_putOff 0 = .ok (.aload_n 0, 1) := by decide +kernel
theorem dX5_putOff_1 : decode cX5_putOff 1 = .ok (.getfield 27, 3) := by decide +kernel
theorem dX5_putOff_4 : decode cX5_putOff 4 = .ok (.aload_n 0, 1) := by decide +kernel
theorem dX5_putOff_5 : decode cX5_putOff 5 = .ok (.getfield 23, 3) := by decide +kernel
theorem dX5_putOff_8 : decode cX5_putOff 8 = .ok (.arraylength, 1) := by decide +kernel
theorem dX5_putOff_9 : decode cX5_putOff 9 = .ok (.if_icmp .lt 4, 3) := by decide +kernel
theorem dX5_putOff_12 : decode cX5_putOff 12 = .ok (.return_, 1) := by decide +kernel
theorem dX5_putOff_13 : decode cX5_putOff 13 = .ok (.aload_n 0, 1) := by decide +kernel
theorem dX5_putOff_14 : decode cX5_putOff 14 = .ok (.getfield 23, 3) := by decide +kernel
theorem dX5_putOff_17 : decode cX5_putOff 17 = .ok (.aload_n 0, 1) := by decide +kernel
theorem dX5_putOff_18 : decode cX5_putOff 18 = .ok (.getfield 27, 3) := by decide +kernel
theorem dX5_putOff_21 : decode cX5_putOff 21 = .ok (.iload_n 1, 1) := by decide +kernel
theorem dX5_putOff_22 : decode cX5_putOff 22 = .ok (.iastore, 1) := by decide +kernel
theorem dX5_putOff_23 : decode cX5_putOff 23 = .ok (.aload_n 0, 1) := by decide +kernel
theorem dX5_putOff_24 : decode cX5_putOff 24 = .ok (.dup, 1) := by decide +kernel
theorem dX5_putOff_25 : decode cX5_putOff 25 = .ok (.getfield 27, 3) := by decide +kernel
theorem dX5_putOff_28 : decode cX5_putOff 28 = .ok (.iconst 1, 1) := by decide +kernel
theorem dX5_putOff_29 : decode cX5_putOff 29 = .ok (.iadd, 1) := by decide +kernel
theorem dX5_putOff_30 : decode cX5_putOff 30 = .ok (.putfield 27, 3) := by decide +kernel
theorem dX5_putOff_33 : decode cX5_putOff 33 = .ok (.return_, 1) := by decide +kernel
theorem dX5_noteDown_0 : decode cX5_noteDown 0 = .ok (.aload_n 0, 1) := by decide +kernel
theorem dX5_noteDown_1 : decode cX5_noteDown 1 = .ok (.getfield 27, 3) := by decide +kernel
theorem dX5_noteDown_4 : decode cX5_noteDown 4 = .ok (.ifCond .le 74, 3) := by decide +kernel
theorem dX5_noteDown_7 : decode cX5_noteDown 7 = .ok (.aload_n 0, 1) := by decide +kernel
theorem dX5_noteDown_8 : decode cX5_noteDown 8 = .ok (.getfield 23, 3) := by decide +kernel
theorem dX5_noteDown_11 : decode cX5_noteDown 11 = .ok (.aload_n 0, 1) := by decide +kernel
theorem dX5_noteDown_12 : decode cX5_noteDown 12 = .ok (.getfield 27, 3) := by decide +kernel
theorem dX5_noteDown_15 : decode cX5_noteDown 15 = .ok (.iconst 1, 1) := by decide +kernel
theorem dX5_noteDown_16 : decode cX5_noteDown 16 = .ok (.isub, 1) := by decide +kernel
theorem dX5_noteDown_17 : decode cX5_noteDown 17 = .ok (.iaload, 1) := by decide +kernel
theorem dX5_noteDown_18 : decode cX5_noteDown 18 = .ok (.iload_n 1, 1) := by decide +kernel
theorem dX5_noteDown_19 : decode cX5_noteDown 19 = .ok (.if_icmp .lt 59, 3) := by decide +kernel
theorem dX5_noteDown_22 : decode cX5_noteDown 22 = .ok (.aload_n 0, 1) := by decide +kernel
theorem dX5_noteDown_23 : decode cX5_noteDown 23 = .ok (.dup, 1) := by decide +kernel
theorem dX5_noteDown_24 : decode cX5_noteDown 24 = .ok (.getfield 27, 3) := by decide +kernel
theorem dX5_noteDown_27 : decode cX5_noteDown 27 = .ok (.iconst 1, 1) := by decide +kernel
theorem dX5_noteDown_28 : decode cX5_noteDown 28 = .ok (.isub, 1) := by decide +kernel
theorem dX5_noteDown_29 : decode cX5_noteDown 29 = .ok (.putfield 27, 3) := by decide +kernel
theorem dX5_noteDown_32 : decode cX5_noteDown 32 = .ok (.aload_n 0, 1) := by decide +kernel
theorem dX5_noteDown_33 : decode cX5_noteDown 33 = .ok (.getfield 23, 3) := by decide +kernel
theorem dX5_noteDown_36 : decode cX5_noteDown 36 = .ok (.aload_n 0, 1) := by decide +kernel
theorem dX5_noteDown_37 : decode cX5_noteDown 37 = .ok (.getfield 27, 3) := by decide +kernel
theorem dX5_noteDown_40 : decode cX5_noteDown 40 = .ok (.iaload, 1) := by decide +kernel
theorem dX5_noteDown_41 : decode cX5_noteDown 41 = .ok (.sipush 266, 3) := by decide +kernel
theorem dX5_noteDown_44 : decode cX5_noteDown 44 = .ok (.if_icmp .ne 13, 3) := by decide +kernel
theorem dX5_noteDown_47 : decode cX5_noteDown 47 = .ok (.aload_n 0, 1) := by decide +kernel
theorem dX5_noteDown_48 : decode cX5_noteDown 48 = .ok (.dup, 1) := by decide +kernel
theorem dX5_noteDown_49 : decode cX5_noteDown 49 = .ok (.getfield 31, 3) := by decide +kernel
theorem dX5_noteDown_52 : decode cX5_noteDown 52 = .ok (.iconst 1, 1) := by decide +kernel
theorem dX5_noteDown_53 : decode cX5_noteDown 53 = .ok (.isub, 1) := by decide +kernel
theorem dX5_noteDown_54 : decode cX5_noteDown 54 = .ok (.putfield 31, 3) := by decide +kernel
theorem dX5_noteDown_57 : decode cX5_noteDown 57 = .ok (.aload_n 0, 1) := by decide +kernel
theorem dX5_noteDown_58 : decode cX5_noteDown 58 = .ok (.getfield 20, 3) := by decide +kernel
theorem dX5_noteDown_61 : decode cX5_noteDown 61 = .ok (.aload_n 0, 1) := by decide +kernel
theorem dX5_noteDown_62 : decode cX5_noteDown 62 = .ok (.getfield 23, 3) := by decide +kernel
theorem dX5_noteDown_65 : decode cX5_noteDown 65 = .ok (.aload_n 0, 1) := by decide +kernel
theorem dX5_noteDown_66 : decode cX5_noteDown 66 = .ok (.getfield 27, 3) := by decide +kernel
theorem dX5_noteDown_69 : decode cX5_noteDown 69 = .ok (.iaload, 1) := by decide +kernel
theorem dX5_noteDown_70 : decode cX5_noteDown 70 = .ok (.ineg, 1) := by decide +kernel
theorem dX5_noteDown_71 : decode cX5_noteDown 71 = .ok (.invokevirtual 140, 3) := by decide +kernel
theorem dX5_noteDown_74 : decode cX5_noteDown 74 = .ok (.pop, 1) := by decide +kernel
theorem dX5_noteDown_75 : decode cX5_noteDown 75 = .ok (.goto (-75), 3) := by decide +kernel
theorem dX5_noteDown_78 : decode cX5_noteDown 78 = .ok (.return_, 1) := by decide +kernel
theorem dX6_init_0 : decode cX6_init 0 = .ok (.aload_n 0, 1) := by decide +kernel
theorem dX6_init_1 : decode cX6_init 1 = .ok (.invokespecial 3, 3) := by decide +kernel
theorem dX6_init_4 : decode cX6_init 4 = .ok (.aload_n 0, 1) := by decide +kernel
theorem dX6_init_5 : decode cX6_init 5 = .ok (.iload_n 1, 1) := by decide +kernel
theorem dX6_init_6 : decode cX6_init 6 = .ok (.putfield 9, 3) := by decide +kernel
theorem dX6_init_9 : decode cX6_init 9 = .ok (.aload_n 0, 1) := by decide +kernel
theorem dX6_init_10 : decode cX6_init 10 = .ok (.iload_n 1, 1) := by decide +kernel
theorem dX6_init_11 : decode cX6_init 11 = .ok (.iload_n 2, 1) := by decide +kernel
theorem dX6_init_12 : decode cX6_init 12 = .ok (.imul, 1) := by decide +kernel
theorem dX6_init_13 : decode cX6_init 13 = .ok (.newarray .int, 2) := by decide +kernel
theorem dX6_init_15 : decode cX6_init 15 = .ok (.putfield 15, 3) := by decide +kernel
theorem dX6_init_18 : decode cX6_init 18 = .ok (.aload_n 0, 1) := by decide +kernel
theorem dX6_init_19 : decode cX6_init 19 = .ok (.iconst 0, 1) := by decide +kernel
theorem dX6_init_20 : decode cX6_init 20 = .ok (.putfield 19, 3) := by decide +kernel
theorem dX6_init_23 : decode cX6_init 23 = .ok (.return_, 1) := by decide +kernel
theorem dX6_size_0 : decode cX6_size 0 = .ok (.aload_n 0, 1) := by decide +kernel
theorem dX6_size_1 : decode cX6_size 1 = .ok (.getfield 19, 3) := by decide +kernel
theorem dX6_size_4 : decode cX6_size 4 = .ok (.ireturn, 1) := by decide +kernel
theorem dX6_isFull_0 : decode cX6_isFull 0 = .ok (.aload_n 0, 1) := by decide +kernel
theorem dX6_isFull_1 : decode cX6_isFull 1 = .ok (.getfield 19, 3) := by decide +kernel
theorem dX6_isFull_4 : decode cX6_isFull 4 = .ok (.iconst 1, 1) := by decide +kernel
theorem dX6_isFull_5 : decode cX6_isFull 5 = .ok (.iadd, 1) := by decide +kernel
theorem dX6_isFull_6 : decode cX6_isFull 6 = .ok (.aload_n 0, 1) := by decide +kernel
theorem dX6_isFull_7 : decode cX6_isFull 7 = .ok (.getfield 9, 3) := by decide +kernel
theorem dX6_isFull_10 : decode cX6_isFull 10 = .ok (.imul, 1) := by decide +kernel
theorem dX6_isFull_11 : decode cX6_isFull 11 = .ok (.aload_n 0, 1) := by decide +kernel
theorem dX6_isFull_12 : decode cX6_isFull 12 = .ok (.getfield 15, 3) := by decide +kernel
theorem dX6_isFull_15 : decode cX6_isFull 15 = .ok (.arraylength, 1) := by decide +kernel
theorem dX6_isFull_16 : decode cX6_isFull 16 = .ok (.if_icmp .le 7, 3) := by decide +kernel
theorem dX6_isFull_19 : decode cX6_isFull 19 = .ok (.iconst 1, 1) := by decide +kernel
theorem dX6_isFull_20 : decode cX6_isFull 20 = .ok (.goto 4, 3) := by decide +kernel
theorem dX6_isFull_23 : decode cX6_isFull 23 = .ok (.iconst 0, 1) := by decide +kernel
theorem dX6_isFull_24 : decode cX6_isFull 24 = .ok (.ireturn, 1) := by decide +kernel
theorem dX6_get_0 : decode cX6_get 0 = .ok (.iload_n 1, 1) := by decide +kernel
theorem dX6_get_1 : decode cX6_get 1 = .ok (.ifCond .lt 23, 3) := by decide +kernel
theorem dX6_get_4 : decode cX6_get 4 = .ok (.iload_n 1, 1) := by decide +kernel
theorem dX6_get_5 : decode cX6_get 5 = .ok (.aload_n 0, 1) := by decide +kernel
theorem dX6_get_6 : decode cX6_get 6 = .ok (.getfield 19, 3) := by decide +kernel
theorem dX6_get_9 : decode cX6_get 9 = .ok (.if_icmp .ge 15, 3) := by decide +kernel
theorem dX6_get_12 : decode cX6_get 12 = .ok (.iload_n 2, 1) := by decide +kernel
theorem dX6_get_13 : decode cX6_get 13 = .ok (.ifCond .lt 11, 3) := by decide +kernel
theorem dX6_get_16 : decode cX6_get 16 = .ok (.iload_n 2, 1) := by decide +kernel
theorem dX6_get_17 : decode cX6_get 17 = .ok (.aload_n 0, 1) := by decide +kernel
theorem dX6_get_18 : decode cX6_get 18 = .ok (.getfield 9, 3) := by decide +kernel
theorem dX6_get_21 : decode cX6_get 21 = .ok (.if_icmp .lt 5, 3) := by decide +kernel
theorem dX6_get_24 : decode cX6_get 24 = .ok (.iconst (-1), 1) := by decide +kernel
theorem dX6_get_25 : decode cX6_get 25 = .ok (.ireturn, 1) := by decide +kernel
theorem dX6_get_26 : decode cX6_get 26 = .ok (.aload_n 0, 1) := by decide +kernel
theorem dX6_get_27 : decode cX6_get 27 = .ok (.getfield 15, 3) := by decide +kernel
theorem dX6_get_30 : decode cX6_get 30 = .ok (.iload_n 1, 1) := by decide +kernel
theorem dX6_get_31 : decode cX6_get 31 = .ok (.aload_n 0, 1) := by decide +kernel
theorem dX6_get_32 : decode cX6_get 32 = .ok (.getfield 9, 3) := by decide +kernel
theorem dX6_get_35 : decode cX6_get 35 = .ok (.imul, 1) := by decide +kernel
theorem dX6_get_36 : decode cX6_get 36 = .ok (.iload_n 2, 1) := by decide +kernel
theorem dX6_get_37 : decode cX6_get 37 = .ok (.iadd, 1) := by decide +kernel
theorem dX6_get_38 : decode cX6_get 38 = .ok (.iaload, 1) := by decide +kernel
theorem dX6_get_39 : decode cX6_get 39 = .ok (.ireturn, 1) := by decide +kernel
theorem dX6_add_0 : decode cX6_add 0 = .ok (.aload_n 0, 1) := by decide +kernel
theorem dX6_add_1 : decode cX6_add 1 = .ok (.getfield 9, 3) := by decide +kernel
theorem dX6_add_4 : decode cX6_add 4 = .ok (.iconst 1, 1) := by decide +kernel
theorem dX6_add_5 : decode cX6_add 5 = .ok (.if_icmp .ne 15, 3) := by decide +kernel
theorem dX6_add_8 : decode cX6_add 8 = .ok (.aload_n 0, 1) := by decide +kernel
theorem dX6_add_9 : decode cX6_add 9 = .ok (.getfield 19, 3) := by decide +kernel
theorem dX6_add_12 : decode cX6_add 12 = .ok (.aload_n 0, 1) := by decide +kernel
theorem dX6_add_13 : decode cX6_add 13 = .ok (.getfield 15, 3) := by decide +kernel
theorem dX6_add_16 : decode cX6_add 16 = .ok (.arraylength, 1) := by decide +kernel
theorem dX6_add_17 : decode cX6_add 17 = .ok (.if_icmp .lt 5, 3) := by decide +kernel
theorem dX6_add_20 : decode cX6_add 20 = .ok (.iconst (-1), 1) := by decide +kernel
theorem dX6_add_21 : decode cX6_add 21 = .ok (.ireturn, 1) := by decide +kernel
theorem dX6_add_22 : decode cX6_add 22 = .ok (.aload_n 0, 1) := by decide +kernel
theorem dX6_add_23 : decode cX6_add 23 = .ok (.getfield 15, 3) := by decide +kernel
theorem dX6_add_26 : decode cX6_add 26 = .ok (.aload_n 0, 1) := by decide +kernel
theorem dX6_add_27 : decode cX6_add 27 = .ok (.getfield 19, 3) := by decide +kernel
theorem dX6_add_30 : decode cX6_add 30 = .ok (.iload_n 1, 1) := by decide +kernel
theorem dX6_add_31 : decode cX6_add 31 = .ok (.iastore, 1) := by decide +kernel
theorem dX6_add_32 : decode cX6_add 32 = .ok (.aload_n 0, 1) := by decide +kernel
theorem dX6_add_33 : decode cX6_add 33 = .ok (.dup, 1) := by decide +kernel
theorem dX6_add_34 : decode cX6_add 34 = .ok (.getfield 19, 3) := by decide +kernel
theorem dX6_add_37 : decode cX6_add 37 = .ok (.iconst 1, 1) := by decide +kernel
theorem dX6_add_38 : decode cX6_add 38 = .ok (.iadd, 1) := by decide +kernel
theorem dX6_add_39 : decode cX6_add 39 = .ok (.putfield 19, 3) := by decide +kernel
theorem dX6_add_42 : decode cX6_add 42 = .ok (.aload_n 0, 1) := by decide +kernel
theorem dX6_add_43 : decode cX6_add 43 = .ok (.getfield 19, 3) := by decide +kernel
theorem dX6_add_46 : decode cX6_add 46 = .ok (.ireturn, 1) := by decide +kernel
theorem dX6_add__0 : decode cX6_add_ 0 = .ok (.aload_n 0, 1) := by decide +kernel
theorem dX6_add__1 : decode cX6_add_ 1 = .ok (.invokevirtual 22, 3) := by decide +kernel
theorem dX6_add__4 : decode cX6_add_ 4 = .ok (.ifCond .eq 5, 3) := by decide +kernel
theorem dX6_add__7 : decode cX6_add_ 7 = .ok (.iconst (-1), 1) := by decide +kernel
theorem dX6_add__8 : decode cX6_add_ 8 = .ok (.ireturn, 1) := by decide +kernel
theorem dX6_add__9 : decode cX6_add_ 9 = .ok (.aload_n 0, 1) := by decide +kernel
theorem dX6_add__10 : decode cX6_add_ 10 = .ok (.dup, 1) := by decide +kernel
theorem dX6_add__11 : decode cX6_add_ 11 = .ok (.getfield 19, 3) := by decide +kernel
theorem dX6_add__14 : decode cX6_add_ 14 = .ok (.iconst 1, 1) := by decide +kernel
theorem dX6_add__15 : decode cX6_add_ 15 = .ok (.iadd, 1) := by decide +kernel
theorem dX6_add__16 : decode cX6_add_ 16 = .ok (.putfield 19, 3) := by decide +kernel
theorem dX6_add__19 : decode cX6_add_ 19 = .ok (.aload_n 0, 1) := by decide +kernel
theorem dX6_add__20 : decode cX6_add_ 20 = .ok (.aload_n 0, 1) := by decide +kernel
theorem dX6_add__21 : decode cX6_add_ 21 = .ok (.getfield 19, 3) := by decide +kernel
theorem dX6_add__24 : decode cX6_add_ 24 = .ok (.iconst 1, 1) := by decide +kernel
theorem dX6_add__25 : decode cX6_add_ 25 = .ok (.isub, 1) := by decide +kernel
theorem dX6_add__26 : decode cX6_add_ 26 = .ok (.iload_n 1, 1) := by decide +kernel
theorem dX6_add__27 : decode cX6_add_ 27 = .ok (.iload_n 2, 1) := by decide +kernel
theorem dX6_add__28 : decode cX6_add_ 28 = .ok (.iload_n 3, 1) := by decide +kernel
theorem dX6_add__29 : decode cX6_add_ 29 = .ok (.iload 4, 2) := by decide +kernel
theorem dX6_add__31 : decode cX6_add_ 31 = .ok (.iload 5, 2) := by decide +kernel
theorem dX6_add__33 : decode cX6_add_ 33 = .ok (.invokevirtual 26, 3) := by decide +kernel
theorem dX6_add__36 : decode cX6_add_ 36 = .ok (.aload_n 0, 1) := by decide +kernel
theorem dX6_add__37 : decode cX6_add_ 37 = .ok (.getfield 19, 3) := by decide +kernel
theorem dX6_add__40 : decode cX6_add_ 40 = .ok (.ireturn, 1) := by decide +kernel
theorem dX6_change_0 : decode cX6_change 0 = .ok (.iload_n 1, 1) := by decide +kernel
theorem dX6_change_1 : decode cX6_change 1 = .ok (.ifCond .lt 11, 3) := by decide +kernel
theorem dX6_change_4 : decode cX6_change 4 = .ok (.iload_n 1, 1) := by decide +kernel
theorem dX6_change_5 : decode cX6_change 5 = .ok (.aload_n 0, 1) := by decide +kernel
theorem dX6_change_6 : decode cX6_change 6 = .ok (.getfield 19, 3) := by decide +kernel
theorem dX6_change_9 : decode cX6_change 9 = .ok (.if_icmp .lt 4, 3) := by decide +kernel
theorem dX6_change_12 : decode cX6_change 12 = .ok (.return_, 1) := by decide +kernel
theorem dX6_change_13 : decode cX6_change 13 = .ok (.iload_n 1, 1) := by decide +kernel
theorem dX6_change_14 : decode cX6_change 14 = .ok (.aload_n 0, 1) := by decide +kernel
theorem dX6_change_15 : decode cX6_change 15 = .ok (.getfield 9, 3) := by decide +kernel
theorem dX6_change_18 : decode cX6_change 18 = .ok (.imul, 1) := by decide +kernel
theorem dX6_change_19 : decode cX6_change 19 = .ok (.istore 7, 2) := by decide +kernel
theorem dX6_change_21 : decode cX6_change 21 = .ok (.aload_n 0, 1) := by decide +kernel
theorem dX6_change_22 : decode cX6_change 22 = .ok (.getfield 9, 3) := by decide +kernel
theorem dX6_change_25 : decode cX6_change 25 = .ok (.ifCond .le 11, 3) := by decide +kernel
theorem dX6_change_28 : decode cX6_change 28 = .ok (.aload_n 0, 1) := by decide +kernel
theorem dX6_change_29 : decode cX6_change 29 = .ok (.getfield 15, 3) := by decide +kernel
theorem dX6_change_32 : decode cX6_change 32 = .ok (.iload 7, 2) := by decide +kernel
theorem dX6_change_34 : decode cX6_change 34 = .ok (.iload_n 2, 1) := by decide +kernel
theorem dX6_change_35 : decode cX6_change 35 = .ok (.iastore, 1) := by decide +kernel
theorem dX6_change_36 : decode cX6_change 36 = .ok (.aload_n 0, 1) := by decide +kernel
theorem dX6_change_37 : decode cX6_change 37 = .ok (.getfield 9, 3) := by decide +kernel
theorem dX6_change_40 : decode cX6_change 40 = .ok (.iconst 1, 1) := by decide +kernel
theorem dX6_change_41 : decode cX6_change 41 = .ok (.if_icmp .le 13, 3) := by decide +kernel
theorem dX6_change_44 : decode cX6_change 44 = .ok (.aload_n 0, 1) := by decide +kernel
theorem dX6_change_45 : decode cX6_change 45 = .ok (.getfield 15, 3) := by decide +kernel
theorem dX6_change_48 : decode cX6_change 48 = .ok (.iload 7, 2) := by decide +kernel
theorem dX6_change_50 : decode cX6_change 50 = .ok (.iconst 1, 1) := by decide +kernel
theorem dX6_change_51 : decode cX6_change 51 = .ok (.iadd, 1) := by decide +kernel
theorem dX6_change_52 : decode cX6_change 52 = .ok (.iload_n 3, 1) := by decide +kernel
theorem dX6_change_53 : decode cX6_change 53 = .ok (.iastore, 1) := by decide +kernel
theorem dX6_change_54 : decode cX6_change 54 = .ok (.aload_n 0, 1) := by decide +kernel
theorem dX6_change_55 : decode cX6_change 55 = .ok (.getfield 9, 3) := by decide +kernel
theorem dX6_change_58 : decode cX6_change 58 = .ok (.iconst 2, 1) := by decide +kernel
theorem dX6_change_59 : decode cX6_change 59 = .ok (.if_icmp .le 14, 3) := by decide +kernel
theorem dX6_change_62 : decode cX6_change 62 = .ok (.aload_n 0, 1) := by decide +kernel
theorem dX6_change_63 : decode cX6_change 63 = .ok (.getfield 15, 3) := by decide +kernel
theorem dX6_change_66 : decode cX6_change 66 = .ok (.iload 7, 2) := by decide +kernel
theorem dX6_change_68 : decode cX6_change 68 = .ok (.iconst 2, 1) := by decide +kernel
theorem dX6_change_69 : decode cX6_change 69 = .ok (.iadd, 1) := by decide +kernel
theorem dX6_change_70 : decode cX6_change 70 = .ok (.iload 4, 2) := by decide +kernel
theorem dX6_change_72 : decode cX6_change 72 = .ok (.iastore, 1) := by decide +kernel
theorem dX6_change_73 : decode cX6_change 73 = .ok (.aload_n 0, 1) := by decide +kernel
theorem dX6_change_74 : decode cX6_change 74 = .ok (.getfield 9, 3) := by decide +kernel
theorem dX6_change_77 : decode cX6_change 77 = .ok (.iconst 3, 1) := by decide +kernel
theorem dX6_change_78 : decode cX6_change 78 = .ok (.if_icmp .le 14, 3) := by decide +kernel
theorem dX6_change_81 : decode cX6_change 81 = .ok (.aload_n 0, 1) := by decide +kernel
theorem dX6_change_82 : decode cX6_change 82 = .ok (.getfield 15, 3) := by decide +kernel
theorem dX6_change_85 : decode cX6_change 85 = .ok (.iload 7, 2) := by decide +kernel
theorem dX6_change_87 : decode cX6_change 87 = .ok (.iconst 3, 1) := by decide +kernel
theorem dX6_change_88 : decode cX6_change 88 = .ok (.iadd, 1) := by decide +kernel
theorem dX6_change_89 : decode cX6_change 89 = .ok (.iload 5, 2) := by decide +kernel
theorem dX6_change_91 : decode cX6_change 91 = .ok (.iastore, 1) := by decide +kernel
theorem dX6_change_92 : decode cX6_change 92 = .ok (.aload_n 0, 1) := by decide +kernel
theorem dX6_change_93 : decode cX6_change 93 = .ok (.getfield 9, 3) := by decide +kernel
theorem dX6_change_96 : decode cX6_change 96 = .ok (.iconst 4, 1) := by decide +kernel
theorem dX6_change_97 : decode cX6_change 97 = .ok (.if_icmp .le 14, 3) := by decide +kernel
theorem dX6_change_100 : decode cX6_change 100 = .ok (.aload_n 0, 1) := by decide +kernel
theorem dX6_change_101 : decode cX6_change 101 = .ok (.getfield 15, 3) := by decide +kernel
theorem dX6_change_104 : decode cX6_change 104 = .ok (.iload 7, 2) := by decide +kernel
theorem dX6_change_106 : decode cX6_change 106 = .ok (.iconst 4, 1) := by decide +kernel
theorem dX6_change_107 : decode cX6_change 107 = .ok (.iadd, 1) := by decide +kernel
theorem dX6_change_108 : decode cX6_change 108 = .ok (.iload 6, 2) := by decide +kernel
theorem dX6_change_110 : decode cX6_change 110 = .ok (.iastore, 1) := by decide +kernel
theorem dX6_change_111 : decode cX6_change 111 = .ok (.return_, 1) := by decide +kernel
theorem dX6_clear_0 : decode cX6_clear 0 = .ok (.aload_n 0, 1) := by decide +kernel
theorem dX6_clear_1 : decode cX6_clear 1 = .ok (.iconst 0, 1) := by decide +kernel
theorem dX6_clear_2 : decode cX6_clear 2 = .ok (.putfield 19, 3) := by decide +kernel
theorem dX6_clear_5 : decode cX6_clear 5 = .ok (.iconst 0, 1) := by decide +kernel
theorem dX6_clear_6 : decode cX6_clear 6 = .ok (.ireturn, 1) := by decide +kernel
theorem dX6_cutTo_0 : decode cX6_cutTo 0 = .ok (.iload_n 1, 1) := by decide +kernel
theorem dX6_cutTo_1 : decode cX6_cutTo 1 = .ok (.ifCond .lt 16, 3) := by decide +kernel
theorem dX6_cutTo_4 : decode cX6_cutTo 4 = .ok (.iload_n 1, 1) := by decide +kernel
theorem dX6_cutTo_5 : decode cX6_cutTo 5 = .ok (.aload_n 0, 1) := by decide +kernel
theorem dX6_cutTo_6 : decode cX6_cutTo 6 = .ok (.getfield 19, 3) := by decide +kernel
theorem dX6_cutTo_9 : decode cX6_cutTo 9 = .ok (.if_icmp .ge 8, 3) := by decide +kernel
theorem dX6_cutTo_12 : decode cX6_cutTo 12 = .ok (.aload_n 0, 1) := by decide +kernel
theorem dX6_cutTo_13 : decode cX6_cutTo 13 = .ok (.iload_n 1, 1) := by decide +kernel
theorem dX6_cutTo_14 : decode cX6_cutTo 14 = .ok (.putfield 19, 3) := by decide +kernel
theorem dX6_cutTo_17 : decode cX6_cutTo 17 = .ok (.return_, 1) := by decide +kernel
theorem dX6_copyFrom_0 : decode cX6_copyFrom 0 = .ok (.aload_n 1, 1) := by decide +kernel
theorem dX6_copyFrom_1 : decode cX6_copyFrom 1 = .ok (.getfield 9, 3) := by decide +kernel
theorem dX6_copyFrom_4 : decode cX6_copyFrom 4 = .ok (.aload_n 0, 1) := by decide +kernel
theorem dX6_copyFrom_5 : decode cX6_copyFrom 5 = .ok (.getfield 9, 3) := by decide +kernel
theorem dX6_copyFrom_8 : decode cX6_copyFrom 8 = .ok (.if_icmp .ne 16, 3) := by decide +kernel
theorem dX6_copyFrom_11 : decode cX6_copyFrom 11 = .ok (.aload_n 1, 1) := by decide +kernel
theorem dX6_copyFrom_12 : decode cX6_copyFrom 12 = .ok (.getfield 15, 3) := by decide +kernel
theorem dX6_copyFrom_15 : decode cX6_copyFrom 15 = .ok (.arraylength, 1) := by decide +kernel
theorem dX6_copyFrom_16 : decode cX6_copyFrom 16 = .ok (.aload_n 0, 1) := by decide +kernel
theorem dX6_copyFrom_17 : decode cX6_copyFrom 17 = .ok (.getfield 15, 3) := by decide +kernel
theorem dX6_copyFrom_20 : decode cX6_copyFrom 20 = .ok (.arraylength, 1) := by decide +kernel
theorem dX6_copyFrom_21 : decode cX6_copyFrom 21 = .ok (.if_icmp .eq 4, 3) := by decide +kernel
theorem dX6_copyFrom_24 : decode cX6_copyFrom 24 = .ok (.return_, 1) := by decide +kernel
theorem dX6_copyFrom_25 : decode cX6_copyFrom 25 = .ok (.aload_n 0, 1) := by decide +kernel
theorem dX6_copyFrom_26 : decode cX6_copyFrom 26 = .ok (.aload_n 1, 1) := by decide +kernel
theorem dX6_copyFrom_27 : decode cX6_copyFrom 27 = .ok (.getfield 19, 3) := by decide +kernel
theorem dX6_copyFrom_30 : decode cX6_copyFrom 30 = .ok (.putfield 19, 3) := by decide +kernel
theorem dX6_copyFrom_33 : decode cX6_copyFrom 33 = .ok (.aload_n 1, 1) := by decide +kernel
theorem dX6_copyFrom_34 : decode cX6_copyFrom 34 = .ok (.getfield 15, 3) := by decide +kernel
theorem dX6_copyFrom_37 : decode cX6_copyFrom 37 = .ok (.iconst 0, 1) := by decide +kernel
theorem dX6_copyFrom_38 : decode cX6_copyFrom 38 = .ok (.aload_n 0, 1) := by decide +kernel
theorem dX6_copyFrom_39 : decode cX6_copyFrom 39 = .ok (.getfield 15, 3) := by decide +kernel
theorem dX6_copyFrom_42 : decode cX6_copyFrom 42 = .ok (.iconst 0, 1) := by decide +kernel
theorem dX6_copyFrom_43 : decode cX6_copyFrom 43 = .ok (.aload_n 0, 1) := by decide +kernel
theorem dX6_copyFrom_44 : decode cX6_copyFrom 44 = .ok (.getfield 19, 3) := by decide +kernel
theorem dX6_copyFrom_47 : decode cX6_copyFrom 47 = .ok (.aload_n 0, 1) := by decide +kernel
theorem dX6_copyFrom_48 : decode cX6_copyFrom 48 = .ok (.getfield 9, 3) := by decide +kernel
theorem dX6_copyFrom_51 : decode cX6_copyFrom 51 = .ok (.imul, 1) := by decide +kernel
theorem dX6_copyFrom_52 : decode cX6_copyFrom 52 = .ok (.invokestatic 30, 3) := by decide +kernel
theorem dX6_copyFrom_55 : decode cX6_copyFrom 55 = .ok (.return_, 1) := by decide +kernel
theorem dX7_init_0 : decode cX7_init 0 = .ok (.aload_n 0, 1) := by decide +kernel
theorem dX7_init_1 : decode cX7_init 1 = .ok (.invokespecial 3, 3) := by decide +kernel
theorem dX7_init_4 : decode cX7_init 4 = .ok (.aload_n 0, 1) := by decide +kernel
theorem dX7_init_5 : decode cX7_init 5 = .ok (.sipush 400, 3) := by decide +kernel
theorem dX7_init_8 : decode cX7_init 8 = .ok (.newarray .byte, 2) := by decide +kernel
theorem dX7_init_10 : decode cX7_init 10 = .ok (.putfield 9, 3) := by decide +kernel
theorem dX7_init_13 : decode cX7_init 13 = .ok (.aload_n 0, 1) := by decide +kernel
theorem dX7_init_14 : decode cX7_init 14 = .ok (.iconst 0, 1) := by decide +kernel
theorem dX7_init_15 : decode cX7_init 15 = .ok (.putfield 15, 3) := by decide +kernel
theorem dX7_init_18 : decode cX7_init 18 = .ok (.return_, 1) := by decide +kernel
theorem dX7_length_0 : decode cX7_length 0 = .ok (.aload_n 0, 1) := by decide +kernel
theorem dX7_length_1 : decode cX7_length 1 = .ok (.getfield 15, 3) := by decide +kernel
theorem dX7_length_4 : decode cX7_length 4 = .ok (.ireturn, 1) := by decide +kernel
theorem dX7_hasRoom_0 : decode cX7_hasRoom 0 = .ok (.aload_n 0, 1) := by decide +kernel
theorem dX7_hasRoom_1 : decode cX7_hasRoom 1 = .ok (.getfield 15, 3) := by decide +kernel
theorem dX7_hasRoom_4 : decode cX7_hasRoom 4 = .ok (.iload_n 1, 1) := by decide +kernel
theorem dX7_hasRoom_5 : decode cX7_hasRoom 5 = .ok (.iadd, 1) := by decide +kernel
theorem dX7_hasRoom_6 : decode cX7_hasRoom 6 = .ok (.sipush 400, 3) := by decide +kernel
theorem dX7_hasRoom_9 : decode cX7_hasRoom 9 = .ok (.if_icmp .gt 7, 3) := by decide +kernel
theorem dX7_hasRoom_12 : decode cX7_hasRoom 12 = .ok (.iconst 1, 1) := by decide +kernel
theorem dX7_hasRoom_13 : decode cX7_hasRoom 13 = .ok (.goto 4, 3) := by decide +kernel
theorem dX7_hasRoom_16 : decode cX7_hasRoom 16 = .ok (.iconst 0, 1) := by decide +kernel
theorem dX7_hasRoom_17 : decode cX7_hasRoom 17 = .ok (.ireturn, 1) := by decide +kernel
theorem dX7_append_0 : decode cX7_append 0 = .ok (.aload_n 0, 1) := by decide +kernel
theorem dX7_append_1 : decode cX7_append 1 = .ok (.iconst 4, 1) := by decide +kernel
theorem dX7_append_2 : decode cX7_append 2 = .ok (.invokevirtual 19, 3) := by decide +kernel
theorem dX7_append_5 : decode cX7_append 5 = .ok (.ifCond .ne 4, 3) := by decide +kernel
theorem dX7_append_8 : decode cX7_append 8 = .ok (.return_, 1) := by decide +kernel
theorem dX7_append_9 : decode cX7_append 9 = .ok (.aload_n 0, 1) := by decide +kernel
theorem dX7_append_10 : decode cX7_append 10 = .ok (.getfield 9, 3) := by decide +kernel
theorem dX7_append_13 : decode cX7_append 13 = .ok (.aload_n 0, 1) := by decide +kernel
theorem dX7_append_14 : decode cX7_append 14 = .ok (.getfield 15, 3) := by decide +kernel
theorem dX7_append_17 : decode cX7_append 17 = .ok (.iload_n 1, 1) := by decide +kernel
theorem dX7_append_18 : decode cX7_append 18 = .ok (.bipush 24, 2) := by decide +kernel
theorem dX7_append_20 : decode cX7_append 20 = .ok (.ishr, 1) := by decide +kernel
theorem dX7_append_21 : decode cX7_append 21 = .ok (.i2b, 1) := by decide +kernel
theorem dX7_append_22 : decode cX7_append 22 = .ok (.bastore, 1) := by decide +kernel
theorem dX7_append_23 : decode cX7_append 23 = .ok (.aload_n 0, 1) := by decide +kernel
theorem dX7_append_24 : decode cX7_append 24 = .ok (.getfield 9, 3) := by decide +kernel
theorem dX7_append_27 : decode cX7_append 27 = .ok (.aload_n 0, 1) := by decide +kernel
theorem dX7_append_28 : decode cX7_append 28 = .ok (.getfield 15, 3) := by decide +kernel
theorem dX7_append_31 : decode cX7_append 31 = .ok (.iconst 1, 1) := by decide +kernel
theorem dX7_append_32 : decode cX7_append 32 = .ok (.iadd, 1) := by decide +kernel
theorem dX7_append_33 : decode cX7_append 33 = .ok (.iload_n 1, 1) := by decide +kernel
theorem dX7_append_34 : decode cX7_append 34 = .ok (.bipush 16, 2) := by decide +kernel
theorem dX7_append_36 : decode cX7_append 36 = .ok (.ishr, 1) := by decide +kernel
theorem dX7_append_37 : decode cX7_append 37 = .ok (.i2b, 1) := by decide +kernel
theorem dX7_append_38 : decode cX7_append 38 = .ok (.bastore, 1) := by decide +kernel
theorem dX7_append_39 : decode cX7_append 39 = .ok (.aload_n 0, 1) := by decide +kernel
theorem dX7_append_40 : decode cX7_append 40 = .ok (.getfield 9, 3) := by decide +kernel
theorem dX7_append_43 : decode cX7_append 43 = .ok (.aload_n 0, 1) := by decide +kernel
theorem dX7_append_44 : decode cX7_append 44 = .ok (.getfield 15, 3) := by decide +kernel
theorem dX7_append_47 : decode cX7_append 47 = .ok (.iconst 2, 1) := by decide +kernel
theorem dX7_append_48 : decode cX7_append 48 = .ok (.iadd, 1) := by decide +kernel
theorem dX7_append_49 : decode cX7_append 49 = .ok (.iload_n 1, 1) := by decide +kernel
theorem dX7_append_50 : decode cX7_append 50 = .ok (.bipush 8, 2) := by decide +kernel
theorem dX7_append_52 : decode cX7_append 52 = .ok (.ishr, 1) := by decide +kernel
theorem dX7_append_53 : decode cX7_append 53 = .ok (.i2b, 1) := by decide +kernel
theorem dX7_append_54 : decode cX7_append 54 = .ok (.bastore, 1) := by decide +kernel
theorem dX7_append_55 : decode cX7_append 55 = .ok (.aload_n 0, 1) := by decide +kernel
theorem dX7_append_56 : decode cX7_append 56 = .ok (.getfield 9, 3) := by decide +kernel
theorem dX7_append_59 : decode cX7_append 59 = .ok (.aload_n 0, 1) := by decide +kernel
theorem dX7_append_60 : decode cX7_append 60 = .ok (.getfield 15, 3) := by decide +kernel
theorem dX7_append_63 : decode cX7_append 63 = .ok (.iconst 3, 1) := by decide +kernel
theorem dX7_append_64 : decode cX7_append 64 = .ok (.iadd, 1) := by decide +kernel
theorem dX7_append_65 : decode cX7_append 65 = .ok (.iload_n 1, 1) := by decide +kernel
theorem dX7_append_66 : decode cX7_append 66 = .ok (.i2b, 1) := by decide +kernel
theorem dX7_append_67 : decode cX7_append 67 = .ok (.bastore, 1) := by decide +kernel
theorem dX7_append_68 : decode cX7_append 68 = .ok (.aload_n 0, 1) := by decide +kernel
theorem dX7_append_69 : decode cX7_append 69 = .ok (.dup, 1) := by decide +kernel
theorem dX7_append_70 : decode cX7_append 70 = .ok (.getfield 15, 3) := by decide +kernel
theorem dX7_append_73 : decode cX7_append 73 = .ok (.iconst 4, 1) := by decide +kernel
theorem dX7_append_74 : decode cX7_append 74 = .ok (.iadd, 1) := by decide +kernel
theorem dX7_append_75 : decode cX7_append 75 = .ok (.putfield 15, 3) := by decide +kernel
theorem dX7_append_78 : decode cX7_append 78 = .ok (.return_, 1) := by decide +kernel
theorem dX7_cut_0 : decode cX7_cut 0 = .ok (.iload_n 1, 1) := by decide +kernel
theorem dX7_cut_1 : decode cX7_cut 1 = .ok (.ifCond .lt 11, 3) := by decide +kernel
theorem dX7_cut_4 : decode cX7_cut 4 = .ok (.iload_n 1, 1) := by decide +kernel
theorem dX7_cut_5 : decode cX7_cut 5 = .ok (.aload_n 0, 1) := by decide +kernel
theorem dX7_cut_6 : decode cX7_cut 6 = .ok (.getfield 15, 3) := by decide +kernel
theorem dX7_cut_9 : decode cX7_cut 9 = .ok (.if_icmp .le 5, 3) := by decide +kernel
theorem dX7_cut_12 : decode cX7_cut 12 = .ok (.iconst 0, 1) := by decide +kernel
theorem dX7_cut_13 : decode cX7_cut 13 = .ok (.ireturn, 1) := by decide +kernel
theorem dX7_cut_14 : decode cX7_cut 14 = .ok (.aload_n 0, 1) := by decide +kernel
theorem dX7_cut_15 : decode cX7_cut 15 = .ok (.iload_n 1, 1) := by decide +kernel
theorem dX7_cut_16 : decode cX7_cut 16 = .ok (.putfield 15, 3) := by decide +kernel
theorem dX7_cut_19 : decode cX7_cut 19 = .ok (.iconst 1, 1) := by decide +kernel
theorem dX7_cut_20 : decode cX7_cut 20 = .ok (.ireturn, 1) := by decide +kernel
theorem dX7_at_0 : decode cX7_at 0 = .ok (.iload_n 1, 1) := by decide +kernel
theorem dX7_at_1 : decode cX7_at 1 = .ok (.ifCond .lt 24, 3) := by decide +kernel
theorem dX7_at_4 : decode cX7_at 4 = .ok (.iload_n 1, 1) := by decide +kernel
theorem dX7_at_5 : decode cX7_at 5 = .ok (.aload_n 0, 1) := by decide +kernel
theorem dX7_at_6 : decode cX7_at 6 = .ok (.getfield 15, 3) := by decide +kernel
theorem dX7_at_9 : decode cX7_at 9 = .ok (.if_icmp .ge 16, 3) := by decide +kernel
theorem dX7_at_12 : decode cX7_at 12 = .ok (.aload_n 0, 1) := by decide +kernel
theorem dX7_at_13 : decode cX7_at 13 = .ok (.getfield 9, 3) := by decide +kernel
theorem dX7_at_16 : decode cX7_at 16 = .ok (.iload_n 1, 1) := by decide +kernel
theorem dX7_at_17 : decode cX7_at 17 = .ok (.baload, 1) := by decide +kernel
theorem dX7_at_18 : decode cX7_at 18 = .ok (.sipush 255, 3) := by decide +kernel
theorem dX7_at_21 : decode cX7_at 21 = .ok (.iand, 1) := by decide +kernel
theorem dX7_at_22 : decode cX7_at 22 = .ok (.goto 4, 3) := by decide +kernel
theorem dX7_at_25 : decode cX7_at 25 = .ok (.iconst (-1), 1) := by decide +kernel
theorem dX7_at_26 : decode cX7_at 26 = .ok (.ireturn, 1) := by decide +kernel
theorem dX8_init_0 : decode cX8_init 0 = .ok (.aload_n 0, 1) := by decide +kernel
theorem dX8_init_1 : decode cX8_init 1 = .ok (.invokespecial 3, 3) := by decide +kernel
theorem dX8_init_4 : decode cX8_init 4 = .ok (.aload_n 0, 1) := by decide +kernel
theorem dX8_init_5 : decode cX8_init 5 = .ok (.sipush 401, 3) := by decide +kernel
theorem dX8_init_8 : decode cX8_init 8 = .ok (.newarray .int, 2) := by decide +kernel
theorem dX8_init_10 : decode cX8_init 10 = .ok (.putfield 9, 3) := by decide +kernel
theorem dX8_init_13 : decode cX8_init 13 = .ok (.aload_n 0, 1) := by decide +kernel
theorem dX8_init_14 : decode cX8_init 14 = .ok (.sipush 401, 3) := by decide +kernel
theorem dX8_init_17 : decode cX8_init 17 = .ok (.newarray .int, 2) := by decide +kernel
theorem dX8_init_19 : decode cX8_init 19 = .ok (.putfield 15, 3) := by decide +kernel
theorem dX8_init_22 : decode cX8_init 22 = .ok (.aload_n 0, 1) := by decide +kernel
theorem dX8_init_23 : decode cX8_init 23 = .ok (.sipush 401, 3) := by decide +kernel
theorem dX8_init_26 : decode cX8_init 26 = .ok (.newarray .int, 2) := by decide +kernel
theorem dX8_init_28 : decode cX8_init 28 = .ok (.putfield 18, 3) := by decide +kernel
theorem dX8_init_31 : decode cX8_init 31 = .ok (.aload_n 0, 1) := by decide +kernel
theorem dX8_init_32 : decode cX8_init 32 = .ok (.iconst 0, 1) := by decide +kernel
theorem dX8_init_33 : decode cX8_init 33 = .ok (.putfield 21, 3) := by decide +kernel
theorem dX8_init_36 : decode cX8_init 36 = .ok (.aload_n 0, 1) := by decide +kernel
theorem dX8_init_37 : decode cX8_init 37 = .ok (.iconst 0, 1) := by decide +kernel
theorem dX8_init_38 : decode cX8_init 38 = .ok (.putfield 25, 3) := by decide +kernel
theorem dX8_init_41 : decode cX8_init 41 = .ok (.aload_n 0, 1) := by decide +kernel
theorem dX8_init_42 : decode cX8_init 42 = .ok (.aload_n 1, 1) := by decide +kernel
theorem dX8_init_43 : decode cX8_init 43 = .ok (.putfield 28, 3) := by decide +kernel
theorem dX8_init_46 : decode cX8_init 46 = .ok (.return_, 1) := by decide +kernel
theorem dX8_kind_0 : decode cX8_kind 0 = .ok (.aload_n 0, 1) := by decide +kernel
theorem dX8_kind_1 : decode cX8_kind 1 = .ok (.getfield 9, 3) := by decide +kernel
theorem dX8_kind_4 : decode cX8_kind 4 = .ok (.aload_n 0, 1) := by decide +kernel
theorem dX8_kind_5 : decode cX8_kind 5 = .ok (.getfield 25, 3) := by decide +kernel
theorem dX8_kind_8 : decode cX8_kind 8 = .ok (.iaload, 1) := by decide +kernel
theorem dX8_kind_9 : decode cX8_kind 9 = .ok (.ireturn, 1) := by decide +kernel
theorem dX8_number_0 : decode cX8_number 0 = .ok (.aload_n 0, 1) := by decide +kernel
theorem dX8_number_1 : decode cX8_number 1 = .ok (.getfield 15, 3) := by decide +kernel
theorem dX8_number_4 : decode cX8_number 4 = .ok (.aload_n 0, 1) := by decide +kernel
theorem dX8_number_5 : decode cX8_number 5 = .ok (.getfield 25, 3) := by decide +kernel
theorem dX8_number_8 : decode cX8_number 8 = .ok (.iaload, 1) := by decide +kernel
theorem dX8_number_9 : decode cX8_number 9 = .ok (.ireturn, 1) := by decide +kernel
theorem dX8_place_0 : decode cX8_place 0 = .ok (.aload_n 0, 1) := by decide +kernel
theorem dX8_place_1 : decode cX8_place 1 = .ok (.getfield 18, 3) := by decide +kernel
theorem dX8_place_4 : decode cX8_place 4 = .ok (.aload_n 0, 1) := by decide +kernel
theorem dX8_place_5 : decode cX8_place 5 = .ok (.getfield 25, 3) := by decide +kernel
theorem dX8_place_8 : decode cX8_place 8 = .ok (.iaload, 1) := by decide +kernel
theorem dX8_place_9 : decode cX8_place 9 = .ok (.ireturn, 1) := by decide +kernel
theorem dX8_advance_0 : decode cX8_advance 0 = .ok (.aload_n 0, 1) := by decide +kernel
theorem dX8_advance_1 : decode cX8_advance 1 = .ok (.getfield 25, 3) := by decide +kernel
theorem dX8_advance_4 : decode cX8_advance 4 = .ok (.aload_n 0, 1) := by decide +kernel
theorem dX8_advance_5 : decode cX8_advance 5 = .ok (.getfield 21, 3) := by decide +kernel
theorem dX8_advance_8 : decode cX8_advance 8 = .ok (.if_icmp .ge 13, 3) := by decide +kernel
theorem dX8_advance_11 : decode cX8_advance 11 = .ok (.aload_n 0, 1) := by decide +kernel
theorem dX8_advance_12 : decode cX8_advance 12 = .ok (.dup, 1) := by decide +kernel
theorem dX8_advance_13 : decode cX8_advance 13 = .ok (.getfield 25, 3) := by decide +kernel
theorem dX8_advance_16 : decode cX8_advance 16 = .ok (.iconst 1, 1) := by decide +kernel
theorem dX8_advance_17 : decode cX8_advance 17 = .ok (.iadd, 1) := by decide +kernel
theorem dX8_advance_18 : decode cX8_advance 18 = .ok (.putfield 25, 3) := by decide +kernel
theorem dX8_advance_21 : decode cX8_advance 21 = .ok (.return_, 1) := by decide +kernel
theorem dX8_scan_0 : decode cX8_scan 0 = .ok (.aload_n 0, 1) := by decide +kernel
theorem dX8_scan_1 : decode cX8_scan 1 = .ok (.iconst 0, 1) := by decide +kernel
theorem dX8_scan_2 : decode cX8_scan 2 = .ok (.putfield 21, 3) := by decide +kernel
theorem dX8_scan_5 : decode cX8_scan 5 = .ok (.aload_n 0, 1) := by decide +kernel
theorem dX8_scan_6 : decode cX8_scan 6 = .ok (.iconst 0, 1) := by decide +kernel
theorem dX8_scan_7 : decode cX8_scan 7 = .ok (.putfield 25, 3) := by decide +kernel
theorem dX8_scan_10 : decode cX8_scan 10 = .ok (.iconst 0, 1) := by decide +kernel
theorem dX8_scan_11 : decode cX8_scan 11 = .ok (.istore_n 1, 1) := by decide +kernel
theorem dX8_scan_12 : decode cX8_scan 12 = .ok (.iconst 0, 1) := by decide +kernel
theorem dX8_scan_13 : decode cX8_scan 13 = .ok (.istore_n 2, 1) := by decide +kernel
theorem dX8_scan_14 : decode cX8_scan 14 = .ok (.iload_n 2, 1) := by decide +kernel
theorem dX8_scan_15 : decode cX8_scan 15 = .ok (.sipush 400, 3) := by decide +kernel
theorem dX8_scan_18 : decode cX8_scan 18 = .ok (.if_icmp .ge 48, 3) := by decide +kernel
theorem dX8_scan_21 : decode cX8_scan 21 = .ok (.iload_n 1, 1) := by decide +kernel
theorem dX8_scan_22 : decode cX8_scan 22 = .ok (.aload_n 0, 1) := by decide +kernel
theorem dX8_scan_23 : decode cX8_scan 23 = .ok (.getfield 28, 3) := by decide +kernel
theorem dX8_scan_26 : decode cX8_scan 26 = .ok (.invokevirtual 32, 3) := by decide +kernel
theorem dX8_scan_29 : decode cX8_scan 29 = .ok (.if_icmp .ge 37, 3) := by decide +kernel
theorem dX8_scan_32 : decode cX8_scan 32 = .ok (.aload_n 0, 1) := by decide +kernel
theorem dX8_scan_33 : decode cX8_scan 33 = .ok (.iload_n 1, 1) := by decide +kernel
theorem dX8_scan_34 : decode cX8_scan 34 = .ok (.invokevirtual 38, 3) := by decide +kernel
theorem dX8_scan_37 : decode cX8_scan 37 = .ok (.istore_n 3, 1) := by decide +kernel
theorem dX8_scan_38 : decode cX8_scan 38 = .ok (.aload_n 0, 1) := by decide +kernel
theorem dX8_scan_39 : decode cX8_scan 39 = .ok (.getfield 28, 3) := by decide +kernel
theorem dX8_scan_42 : decode cX8_scan 42 = .ok (.iload_n 1, 1) := by decide +kernel
theorem dX8_scan_43 : decode cX8_scan 43 = .ok (.invokevirtual 42, 3) := by decide +kernel
theorem dX8_scan_46 : decode cX8_scan 46 = .ok (.invokestatic 45, 3) := by decide +kernel
theorem dX8_scan_49 : decode cX8_scan 49 = .ok (.ifCond .ne 9, 3) := by decide +kernel
theorem dX8_scan_52 : decode cX8_scan 52 = .ok (.aload_n 0, 1) := by decide +kernel
theorem dX8_scan_53 : decode cX8_scan 53 = .ok (.iload_n 1, 1) := by decide +kernel
theorem dX8_scan_54 : decode cX8_scan 54 = .ok (.iload_n 3, 1) := by decide +kernel
theorem dX8_scan_55 : decode cX8_scan 55 = .ok (.invokevirtual 49, 3) := by decide +kernel
theorem dX8_scan_58 : decode cX8_scan 58 = .ok (.iload_n 3, 1) := by decide +kernel
theorem dX8_scan_59 : decode cX8_scan 59 = .ok (.istore_n 1, 1) := by decide +kernel
theorem dX8_scan_60 : decode cX8_scan 60 = .ok (.iinc 2 1, 3) := by decide +kernel
theorem dX8_scan_63 : decode cX8_scan 63 = .ok (.goto (-49), 3) := by decide +kernel
theorem dX8_scan_66 : decode cX8_scan 66 = .ok (.aload_n 0, 1) := by decide +kernel
theorem dX8_scan_67 : decode cX8_scan 67 = .ok (.getfield 9, 3) := by decide +kernel
theorem dX8_scan_70 : decode cX8_scan 70 = .ok (.aload_n 0, 1) := by decide +kernel
theorem dX8_scan_71 : decode cX8_scan 71 = .ok (.getfield 21, 3) := by decide +kernel
theorem dX8_scan_74 : decode cX8_scan 74 = .ok (.sipush 256, 3) := by decide +kernel
theorem dX8_scan_77 : decode cX8_scan 77 = .ok (.iastore, 1) := by decide +kernel
theorem dX8_scan_78 : decode cX8_scan 78 = .ok (.aload_n 0, 1) := by decide +kernel
theorem dX8_scan_79 : decode cX8_scan 79 = .ok (.getfield 18, 3) := by decide +kernel
theorem dX8_scan_82 : decode cX8_scan 82 = .ok (.aload_n 0, 1) := by decide +kernel
theorem dX8_scan_83 : decode cX8_scan 83 = .ok (.getfield 21, 3) := by decide +kernel
theorem dX8_scan_86 : decode cX8_scan 86 = .ok (.aload_n 0, 1) := by decide +kernel
theorem dX8_scan_87 : decode cX8_scan 87 = .ok (.getfield 28, 3) := by decide +kernel
theorem dX8_scan_90 : decode cX8_scan 90 = .ok (.invokevirtual 32, 3) := by decide +kernel
theorem dX8_scan_93 : decode cX8_scan 93 = .ok (.iastore, 1) := by decide +kernel
theorem dX8_scan_94 : decode cX8_scan 94 = .ok (.return_, 1) := by decide +kernel
theorem dX8_behind_0 : decode cX8_behind 0 = .ok (.iload_n 1, 1) := by decide +kernel
theorem dX8_behind_1 : decode cX8_behind 1 = .ok (.iconst 1, 1) := by decide +kernel
theorem dX8_behind_2 : decode cX8_behind 2 = .ok (.iadd, 1) := by decide +kernel
theorem dX8_behind_3 : decode cX8_behind 3 = .ok (.istore_n 2, 1) := by decide +kernel
theorem dX8_behind_4 : decode cX8_behind 4 = .ok (.aload_n 0, 1) := by decide +kernel
theorem dX8_behind_5 : decode cX8_behind 5 = .ok (.getfield 28, 3) := by decide +kernel
theorem dX8_behind_8 : decode cX8_behind 8 = .ok (.iload_n 1, 1) := by decide +kernel
theorem dX8_behind_9 : decode cX8_behind 9 = .ok (.invokevirtual 42, 3) := by decide +kernel
theorem dX8_behind_12 : decode cX8_behind 12 = .ok (.invokestatic 53, 3) := by decide +kernel
theorem dX8_behind_15 : decode cX8_behind 15 = .ok (.ifCond .eq 30, 3) := by decide +kernel
theorem dX8_behind_18 : decode cX8_behind 18 = .ok (.iload_n 2, 1) := by decide +kernel
theorem dX8_behind_19 : decode cX8_behind 19 = .ok (.sipush 400, 3) := by decide +kernel
theorem dX8_behind_22 : decode cX8_behind 22 = .ok (.if_icmp .ge 64, 3) := by decide +kernel
theorem dX8_behind_25 : decode cX8_behind 25 = .ok (.aload_n 0, 1) := by decide +kernel
theorem dX8_behind_26 : decode cX8_behind 26 = .ok (.getfield 28, 3) := by decide +kernel
theorem dX8_behind_29 : decode cX8_behind 29 = .ok (.iload_n 2, 1) := by decide +kernel
theorem dX8_behind_30 : decode cX8_behind 30 = .ok (.invokevirtual 42, 3) := by decide +kernel
theorem dX8_behind_33 : decode cX8_behind 33 = .ok (.invokestatic 53, 3) := by decide +kernel
theorem dX8_behind_36 : decode cX8_behind 36 = .ok (.ifCond .eq 50, 3) := by decide +kernel
theorem dX8_behind_39 : decode cX8_behind 39 = .ok (.iinc 2 1, 3) := by decide +kernel
theorem dX8_behind_42 : decode cX8_behind 42 = .ok (.goto (-24), 3) := by decide +kernel
theorem dX8_behind_45 : decode cX8_behind 45 = .ok (.aload_n 0, 1) := by decide +kernel
theorem dX8_behind_46 : decode cX8_behind 46 = .ok (.getfield 28, 3) := by decide +kernel
theorem dX8_behind_49 : decode cX8_behind 49 = .ok (.iload_n 1, 1) := by decide +kernel
theorem dX8_behind_50 : decode cX8_behind 50 = .ok (.invokevirtual 42, 3) := by decide +kernel
theorem dX8_behind_53 : decode cX8_behind 53 = .ok (.invokestatic 56, 3) := by decide +kernel
theorem dX8_behind_56 : decode cX8_behind 56 = .ok (.ifCond .eq 30, 3) := by decide +kernel
theorem dX8_behind_59 : decode cX8_behind 59 = .ok (.iload_n 2, 1) := by decide +kernel
theorem dX8_behind_60 : decode cX8_behind 60 = .ok (.sipush 400, 3) := by decide +kernel
theorem dX8_behind_63 : decode cX8_behind 63 = .ok (.if_icmp .ge 23, 3) := by decide +kernel
theorem dX8_behind_66 : decode cX8_behind 66 = .ok (.aload_n 0, 1) := by decide +kernel
theorem dX8_behind_67 : decode cX8_behind 67 = .ok (.getfield 28, 3) := by decide +kernel
theorem dX8_behind_70 : decode cX8_behind 70 = .ok (.iload_n 2, 1) := by decide +kernel
theorem dX8_behind_71 : decode cX8_behind 71 = .ok (.invokevirtual 42, 3) := by decide +kernel
theorem dX8_behind_74 : decode cX8_behind 74 = .ok (.invokestatic 56, 3) := by decide +kernel
theorem dX8_behind_77 : decode cX8_behind 77 = .ok (.ifCond .eq 9, 3) := by decide +kernel
theorem dX8_behind_80 : decode cX8_behind 80 = .ok (.iinc 2 1, 3) := by decide +kernel
theorem dX8_behind_83 : decode cX8_behind 83 = .ok (.goto (-24), 3) := by decide +kernel
theorem dX8_behind_86 : decode cX8_behind 86 = .ok (.iload_n 2, 1) := by decide +kernel
theorem dX8_behind_87 : decode cX8_behind 87 = .ok (.ireturn, 1) := by decide +kernel
theorem dX8_note_0 : decode cX8_note 0 = .ok (.aload_n 0, 1) := by decide +kernel
theorem dX8_note_1 : decode cX8_note 1 = .ok (.getfield 21, 3) := by decide +kernel
theorem dX8_note_4 : decode cX8_note 4 = .ok (.sipush 400, 3) := by decide +kernel
theorem dX8_note_7 : decode cX8_note 7 = .ok (.if_icmp .lt 4, 3) := by decide +kernel
theorem dX8_note_10 : decode cX8_note 10 = .ok (.return_, 1) := by decide +kernel
theorem dX8_note_11 : decode cX8_note 11 = .ok (.aload_n 0, 1) := by decide +kernel
theorem dX8_note_12 : decode cX8_note 12 = .ok (.getfield 28, 3) := by decide +kernel
theorem dX8_note_15 : decode cX8_note 15 = .ok (.iload_n 1, 1) := by decide +kernel
theorem dX8_note_16 : decode cX8_note 16 = .ok (.invokevirtual 42, 3) := by decide +kernel
theorem dX8_note_19 : decode cX8_note 19 = .ok (.istore_n 3, 1) := by decide +kernel
theorem dX8_note_20 : decode cX8_note 20 = .ok (.aload_n 0, 1) := by decide +kernel
theorem dX8_note_21 : decode cX8_note 21 = .ok (.getfield 9, 3) := by decide +kernel
theorem dX8_note_24 : decode cX8_note 24 = .ok (.aload_n 0, 1) := by decide +kernel
theorem dX8_note_25 : decode cX8_note 25 = .ok (.getfield 21, 3) := by decide +kernel
theorem dX8_note_28 : decode cX8_note 28 = .ok (.iload_n 3, 1) := by decide +kernel
theorem dX8_note_29 : decode cX8_note 29 = .ok (.iastore, 1) := by decide +kernel
theorem dX8_note_30 : decode cX8_note 30 = .ok (.aload_n 0, 1) := by decide +kernel
theorem dX8_note_31 : decode cX8_note 31 = .ok (.getfield 15, 3) := by decide +kernel
theorem dX8_note_34 : decode cX8_note 34 = .ok (.aload_n 0, 1) := by decide +kernel
theorem dX8_note_35 : decode cX8_note 35 = .ok (.getfield 21, 3) := by decide +kernel
theorem dX8_note_38 : decode cX8_note 38 = .ok (.iconst 0, 1) := by decide +kernel
theorem dX8_note_39 : decode cX8_note 39 = .ok (.iastore, 1) := by decide +kernel
theorem dX8_note_40 : decode cX8_note 40 = .ok (.aload_n 0, 1) := by decide +kernel
theorem dX8_note_41 : decode cX8_note 41 = .ok (.getfield 18, 3) := by decide +kernel
theorem dX8_note_44 : decode cX8_note 44 = .ok (.aload_n 0, 1) := by decide +kernel
theorem dX8_note_45 : decode cX8_note 45 = .ok (.getfield 21, 3) := by decide +kernel
theorem dX8_note_48 : decode cX8_note 48 = .ok (.iload_n 1, 1) := by decide +kernel
theorem dX8_note_49 : decode cX8_note 49 = .ok (.iastore, 1) := by decide +kernel
theorem dX8_note_50 : decode cX8_note 50 = .ok (.iload_n 3, 1) := by decide +kernel
theorem dX8_note_51 : decode cX8_note 51 = .ok (.invokestatic 56, 3) := by decide +kernel
theorem dX8_note_54 : decode cX8_note 54 = .ok (.ifCond .eq 18, 3) := by decide +kernel
theorem dX8_note_57 : decode cX8_note 57 = .ok (.aload_n 0, 1) := by decide +kernel
theorem dX8_note_58 : decode cX8_note 58 = .ok (.getfield 9, 3) := by decide +kernel
theorem dX8_note_61 : decode cX8_note 61 = .ok (.aload_n 0, 1) := by decide +kernel
theorem dX8_note_62 : decode cX8_note 62 = .ok (.getfield 21, 3) := by decide +kernel
theorem dX8_note_65 : decode cX8_note 65 = .ok (.aload_n 0, 1) := by decide +kernel
theorem dX8_note_66 : decode cX8_note 66 = .ok (.iload_n 1, 1) := by decide +kernel
theorem dX8_note_67 : decode cX8_note 67 = .ok (.iload_n 2, 1) := by decide +kernel
theorem dX8_note_68 : decode cX8_note 68 = .ok (.invokevirtual 59, 3) := by decide +kernel
theorem dX8_note_71 : decode cX8_note 71 = .ok (.iastore, 1) := by decide +kernel
theorem dX8_note_72 : decode cX8_note 72 = .ok (.iload_n 3, 1) := by decide +kernel
theorem dX8_note_73 : decode cX8_note 73 = .ok (.invokestatic 53, 3) := by decide +kernel
theorem dX8_note_76 : decode cX8_note 76 = .ok (.ifCond .eq 94, 3) := by decide +kernel
theorem dX8_note_79 : decode cX8_note 79 = .ok (.iload_n 2, 1) := by decide +kernel
theorem dX8_note_80 : decode cX8_note 80 = .ok (.iload_n 1, 1) := by decide +kernel
theorem dX8_note_81 : decode cX8_note 81 = .ok (.isub, 1) := by decide +kernel
theorem dX8_note_82 : decode cX8_note 82 = .ok (.iconst 4, 1) := by decide +kernel
theorem dX8_note_83 : decode cX8_note 83 = .ok (.if_icmp .gt 7, 3) := by decide +kernel
theorem dX8_note_86 : decode cX8_note 86 = .ok (.iconst 1, 1) := by decide +kernel
theorem dX8_note_87 : decode cX8_note 87 = .ok (.goto 4, 3) := by decide +kernel
theorem dX8_note_90 : decode cX8_note 90 = .ok (.iconst 0, 1) := by decide +kernel
theorem dX8_note_91 : decode cX8_note 91 = .ok (.istore 4, 2) := by decide +kernel
theorem dX8_note_93 : decode cX8_note 93 = .ok (.aload_n 0, 1) := by decide +kernel
theorem dX8_note_94 : decode cX8_note 94 = .ok (.getfield 9, 3) := by decide +kernel
theorem dX8_note_97 : decode cX8_note 97 = .ok (.aload_n 0, 1) := by decide +kernel
theorem dX8_note_98 : decode cX8_note 98 = .ok (.getfield 21, 3) := by decide +kernel
theorem dX8_note_101 : decode cX8_note 101 = .ok (.iload 4, 2) := by decide +kernel
theorem dX8_note_103 : decode cX8_note 103 = .ok (.ifCond .eq 9, 3) := by decide +kernel
theorem dX8_note_106 : decode cX8_note 106 = .ok (.sipush 257, 3) := by decide +kernel
theorem dX8_note_109 : decode cX8_note 109 = .ok (.goto 6, 3) := by decide +kernel
theorem dX8_note_112 : decode cX8_note 112 = .ok (.sipush 258, 3) := by decide +kernel
theorem dX8_note_115 : decode cX8_note 115 = .ok (.iastore, 1) := by decide +kernel
theorem dX8_note_116 : decode cX8_note 116 = .ok (.iload_n 1, 1) := by decide +kernel
theorem dX8_note_117 : decode cX8_note 117 = .ok (.istore 5, 2) := by decide +kernel
theorem dX8_note_119 : decode cX8_note 119 = .ok (.iload 4, 2) := by decide +kernel
theorem dX8_note_121 : decode cX8_note 121 = .ok (.ifCond .eq 49, 3) := by decide +kernel
theorem dX8_note_124 : decode cX8_note 124 = .ok (.iload 5, 2) := by decide +kernel
theorem dX8_note_126 : decode cX8_note 126 = .ok (.iload_n 2, 1) := by decide +kernel
theorem dX8_note_127 : decode cX8_note 127 = .ok (.if_icmp .ge 43, 3) := by decide +kernel
theorem dX8_note_130 : decode cX8_note 130 = .ok (.aload_n 0, 1) := by decide +kernel
theorem dX8_note_131 : decode cX8_note 131 = .ok (.getfield 15, 3) := by decide +kernel
theorem dX8_note_134 : decode cX8_note 134 = .ok (.aload_n 0, 1) := by decide +kernel
theorem dX8_note_135 : decode cX8_note 135 = .ok (.getfield 21, 3) := by decide +kernel
theorem dX8_note_138 : decode cX8_note 138 = .ok (.bipush 10, 2) := by decide +kernel
theorem dX8_note_140 : decode cX8_note 140 = .ok (.aload_n 0, 1) := by decide +kernel
theorem dX8_note_141 : decode cX8_note 141 = .ok (.getfield 15, 3) := by decide +kernel
theorem dX8_note_144 : decode cX8_note 144 = .ok (.aload_n 0, 1) := by decide +kernel
theorem dX8_note_145 : decode cX8_note 145 = .ok (.getfield 21, 3) := by decide +kernel
theorem dX8_note_148 : decode cX8_note 148 = .ok (.iaload, 1) := by decide +kernel
theorem dX8_note_149 : decode cX8_note 149 = .ok (.imul, 1) := by decide +kernel
theorem dX8_note_150 : decode cX8_note 150 = .ok (.aload_n 0, 1) := by decide +kernel
theorem dX8_note_151 : decode cX8_note 151 = .ok (.getfield 28, 3) := by decide +kernel
theorem dX8_note_154 : decode cX8_note 154 = .ok (.iload 5, 2) := by decide +kernel
theorem dX8_note_156 : decode cX8_note 156 = .ok (.invokevirtual 42, 3) := by decide +kernel
theorem dX8_note_159 : decode cX8_note 159 = .ok (.iadd, 1) := by decide +kernel
theorem dX8_note_160 : decode cX8_note 160 = .ok (.bipush 48, 2) := by decide +kernel
theorem dX8_note_162 : decode cX8_note 162 = .ok (.isub, 1) := by decide +kernel
theorem dX8_note_163 : decode cX8_note 163 = .ok (.iastore, 1) := by decide +kernel
theorem dX8_note_164 : decode cX8_note 164 = .ok (.iinc 5 1, 3) := by decide +kernel
theorem dX8_note_167 : decode cX8_note 167 = .ok (.goto (-48), 3) := by decide +kernel
theorem dX8_note_170 : decode cX8_note 170 = .ok (.aload_n 0, 1) := by decide +kernel
theorem dX8_note_171 : decode cX8_note 171 = .ok (.dup, 1) := by decide +kernel
theorem dX8_note_172 : decode cX8_note 172 = .ok (.getfield 21, 3) := by decide +kernel
theorem dX8_note_175 : decode cX8_note 175 = .ok (.iconst 1, 1) := by decide +kernel
theorem dX8_note_176 : decode cX8_note 176 = .ok (.iadd, 1) := by decide +kernel
theorem dX8_note_177 : decode cX8_note 177 = .ok (.putfield 21, 3) := by decide +kernel
theorem dX8_note_180 : decode cX8_note 180 = .ok (.return_, 1) := by decide +kernel
theorem dX8_isBlank_0 : decode cX8_isBlank 0 = .ok (.iload_n 0, 1) := by decide +kernel
theorem dX8_isBlank_1 : decode cX8_isBlank 1 = .ok (.bipush 32, 2) := by decide +kernel
theorem dX8_isBlank_3 : decode cX8_isBlank 3 = .ok (.if_icmp .eq 9, 3) := by decide +kernel
theorem dX8_isBlank_6 : decode cX8_isBlank 6 = .ok (.iload_n 0, 1) := by decide +kernel
theorem dX8_isBlank_7 : decode cX8_isBlank 7 = .ok (.bipush 10, 2) := by decide +kernel
theorem dX8_isBlank_9 : decode cX8_isBlank 9 = .ok (.if_icmp .ne 7, 3) := by decide +kernel
theorem dX8_isBlank_12 : decode cX8_isBlank 12 = .ok (.iconst 1, 1) := by decide +kernel
theorem dX8_isBlank_13 : decode cX8_isBlank 13 = .ok (.goto 4, 3) := by decide +kernel
theorem dX8_isBlank_16 : decode cX8_isBlank 16 = .ok (.iconst 0, 1) := by decide +kernel
theorem dX8_isBlank_17 : decode cX8_isBlank 17 = .ok (.ireturn, 1) := by decide +kernel
theorem dX8_isDigit_0 : decode cX8_isDigit 0 = .ok (.iload_n 0, 1) := by decide +kernel
theorem dX8_isDigit_1 : decode cX8_isDigit 1 = .ok (.bipush 48, 2) := by decide +kernel
theorem dX8_isDigit_3 : decode cX8_isDigit 3 = .ok (.if_icmp .lt 13, 3) := by decide +kernel
theorem dX8_isDigit_6 : decode cX8_isDigit 6 = .ok (.iload_n 0, 1) := by decide +kernel
theorem dX8_isDigit_7 : decode cX8_isDigit 7 = .ok (.bipush 57, 2) := by decide +kernel
theorem dX8_isDigit_9 : decode cX8_isDigit 9 = .ok (.if_icmp .gt 7, 3) := by decide +kernel
theorem dX8_isDigit_12 : decode cX8_isDigit 12 = .ok (.iconst 1, 1) := by decide +kernel
theorem dX8_isDigit_13 : decode cX8_isDigit 13 = .ok (.goto 4, 3) := by decide +kernel
theorem dX8_isDigit_16 : decode cX8_isDigit 16 = .ok (.iconst 0, 1) := by decide +kernel
theorem dX8_isDigit_17 : decode cX8_isDigit 17 = .ok (.ireturn, 1) := by decide +kernel
theorem dX8_isLetter_0 : decode cX8_isLetter 0 = .ok (.iload_n 0, 1) := by decide +kernel
theorem dX8_isLetter_1 : decode cX8_isLetter 1 = .ok (.bipush 97, 2) := by decide +kernel
theorem dX8_isLetter_3 : decode cX8_isLetter 3 = .ok (.if_icmp .lt 9, 3) := by decide +kernel
theorem dX8_isLetter_6 : decode cX8_isLetter 6 = .ok (.iload_n 0, 1) := by decide +kernel
theorem dX8_isLetter_7 : decode cX8_isLetter 7 = .ok (.bipush 122, 2) := by decide +kernel
theorem dX8_isLetter_9 : decode cX8_isLetter 9 = .ok (.if_icmp .le 15, 3) := by decide +kernel
theorem dX8_isLetter_12 : decode cX8_isLetter 12 = .ok (.iload_n 0, 1) := by decide +kernel
theorem dX8_isLetter_13 : decode cX8_isLetter 13 = .ok (.bipush 65, 2) := by decide +kernel
theorem dX8_isLetter_15 : decode cX8_isLetter 15 = .ok (.if_icmp .lt 13, 3) := by decide +kernel
theorem dX8_isLetter_18 : decode cX8_isLetter 18 = .ok (.iload_n 0, 1) := by decide +kernel
theorem dX8_isLetter_19 : decode cX8_isLetter 19 = .ok (.bipush 90, 2) := by decide +kernel
theorem dX8_isLetter_21 : decode cX8_isLetter 21 = .ok (.if_icmp .gt 7, 3) := by decide +kernel
theorem dX8_isLetter_24 : decode cX8_isLetter 24 = .ok (.iconst 1, 1) := by decide +kernel
theorem dX8_isLetter_25 : decode cX8_isLetter 25 = .ok (.goto 4, 3) := by decide +kernel
theorem dX8_isLetter_28 : decode cX8_isLetter 28 = .ok (.iconst 0, 1) := by decide +kernel
theorem dX8_isLetter_29 : decode cX8_isLetter 29 = .ok (.ireturn, 1) := by decide +kernel
theorem dX8_spells_0 : decode cX8_spells 0 = .ok (.iload_n 2, 1) := by decide +kernel
theorem dX8_spells_1 : decode cX8_spells 1 = .ok (.iload_n 1, 1) := by decide +kernel
theorem dX8_spells_2 : decode cX8_spells 2 = .ok (.isub, 1) := by decide +kernel
theorem dX8_spells_3 : decode cX8_spells 3 = .ok (.aload_n 3, 1) := by decide +kernel
theorem dX8_spells_4 : decode cX8_spells 4 = .ok (.invokevirtual 63, 3) := by decide +kernel
theorem dX8_spells_7 : decode cX8_spells 7 = .ok (.if_icmp .eq 5, 3) := by decide +kernel
theorem dX8_spells_10 : decode cX8_spells 10 = .ok (.iconst 0, 1) := by decide +kernel
theorem dX8_spells_11 : decode cX8_spells 11 = .ok (.ireturn, 1) := by decide +kernel
theorem dX8_spells_12 : decode cX8_spells 12 = .ok (.iconst 0, 1) := by decide +kernel
theorem dX8_spells_13 : decode cX8_spells 13 = .ok (.istore 4, 2) := by decide +kernel
theorem dX8_spells_15 : decode cX8_spells 15 = .ok (.iload 4, 2) := by decide +kernel
theorem dX8_spells_17 : decode cX8_spells 17 = .ok (.aload_n 3, 1) := by decide +kernel
theorem dX8_spells_18 : decode cX8_spells 18 = .ok (.invokevirtual 63, 3) := by decide +kernel
theorem dX8_spells_21 : decode cX8_spells 21 = .ok (.if_icmp .ge 31, 3) := by decide +kernel
theorem dX8_spells_24 : decode cX8_spells 24 = .ok (.aload_n 0, 1) := by decide +kernel
theorem dX8_spells_25 : decode cX8_spells 25 = .ok (.getfield 28, 3) := by decide +kernel
theorem dX8_spells_28 : decode cX8_spells 28 = .ok (.iload_n 1, 1) := by decide +kernel
theorem dX8_spells_29 : decode cX8_spells 29 = .ok (.iload 4, 2) := by decide +kernel
theorem dX8_spells_31 : decode cX8_spells 31 = .ok (.iadd, 1) := by decide +kernel
theorem dX8_spells_32 : decode cX8_spells 32 = .ok (.invokevirtual 42, 3) := by decide +kernel
theorem dX8_spells_35 : decode cX8_spells 35 = .ok (.aload_n 3, 1) := by decide +kernel
theorem dX8_spells_36 : decode cX8_spells 36 = .ok (.iload 4, 2) := by decide +kernel
theorem dX8_spells_38 : decode cX8_spells 38 = .ok (.invokevirtual 66, 3) := by decide +kernel
theorem dX8_spells_41 : decode cX8_spells 41 = .ok (.if_icmp .eq 5, 3) := by decide +kernel
theorem dX8_spells_44 : decode cX8_spells 44 = .ok (.iconst 0, 1) := by decide +kernel
theorem dX8_spells_45 : decode cX8_spells 45 = .ok (.ireturn, 1) := by decide +kernel
theorem dX8_spells_46 : decode cX8_spells 46 = .ok (.iinc 4 1, 3) := by decide +kernel
theorem dX8_spells_49 : decode cX8_spells 49 = .ok (.goto (-34), 3) := by decide +kernel
theorem dX8_spells_52 : decode cX8_spells 52 = .ok (.iconst 1, 1) := by decide +kernel
theorem dX8_spells_53 : decode cX8_spells 53 = .ok (.ireturn, 1) := by decide +kernel
theorem dX8_wordOf_0 : decode cX8_wordOf 0 = .ok (.aload_n 0, 1) := by decide +kernel
theorem dX8_wordOf_1 : decode cX8_wordOf 1 = .ok (.iload_n 1, 1) := by decide +kernel
theorem dX8_wordOf_2 : decode cX8_wordOf 2 = .ok (.iload_n 2, 1) := by decide +kernel
theorem dX8_wordOf_3 : decode cX8_wordOf 3 = .ok (.ldc 70, 2) := by decide +kernel
theorem dX8_wordOf_5 : decode cX8_wordOf 5 = .ok (.invokevirtual 72, 3) := by decide +kernel
theorem dX8_wordOf_8 : decode cX8_wordOf 8 = .ok (.ifCond .eq 7, 3) := by decide +kernel
theorem dX8_wordOf_11 : decode cX8_wordOf 11 = .ok (.sipush 260, 3) := by decide +kernel
theorem dX8_wordOf_14 : decode cX8_wordOf 14 = .ok (.ireturn, 1) := by decide +kernel
theorem dX8_wordOf_15 : decode cX8_wordOf 15 = .ok (.aload_n 0, 1) := by decide +kernel
theorem dX8_wordOf_16 : decode cX8_wordOf 16 = .ok (.iload_n 1, 1) := by decide +kernel
theorem dX8_wordOf_17 : decode cX8_wordOf 17 = .ok (.iload_n 2, 1) := by decide +kernel
theorem dX8_wordOf_18 : decode cX8_wordOf 18 = .ok (.ldc 76, 2) := by decide +kernel
theorem dX8_wordOf_20 : decode cX8_wordOf 20 = .ok (.invokevirtual 72, 3) := by decide +kernel
theorem dX8_wordOf_23 : decode cX8_wordOf 23 = .ok (.ifCond .eq 7, 3) := by decide +kernel
theorem dX8_wordOf_26 : decode cX8_wordOf 26 = .ok (.sipush 261, 3) := by decide +kernel
theorem dX8_wordOf_29 : decode cX8_wordOf 29 = .ok (.ireturn, 1) := by decide +kernel
theorem dX8_wordOf_30 : decode cX8_wordOf 30 = .ok (.aload_n 0, 1) := by decide +kernel
theorem dX8_wordOf_31 : decode cX8_wordOf 31 = .ok (.iload_n 1, 1) := by decide +kernel
theorem dX8_wordOf_32 : decode cX8_wordOf 32 = .ok (.iload_n 2, 1) := by decide +kernel
theorem dX8_wordOf_33 : decode cX8_wordOf 33 = .ok (.ldc 78, 2) := by decide +kernel
theorem dX8_wordOf_35 : decode cX8_wordOf 35 = .ok (.invokevirtual 72, 3) := by decide +kernel
theorem dX8_wordOf_38 : decode cX8_wordOf 38 = .ok (.ifCond .eq 7, 3) := by decide +kernel
theorem dX8_wordOf_41 : decode cX8_wordOf 41 = .ok (.sipush 262, 3) := by decide +kernel
theorem dX8_wordOf_44 : decode cX8_wordOf 44 = .ok (.ireturn, 1) := by decide +kernel
theorem dX8_wordOf_45 : decode cX8_wordOf 45 = .ok (.aload_n 0, 1) := by decide +kernel
theorem dX8_wordOf_46 : decode cX8_wordOf 46 = .ok (.iload_n 1, 1) := by decide +kernel
theorem dX8_wordOf_47 : decode cX8_wordOf 47 = .ok (.iload_n 2, 1) := by decide +kernel
theorem dX8_wordOf_48 : decode cX8_wordOf 48 = .ok (.ldc 80, 2) := by decide +kernel
theorem dX8_wordOf_50 : decode cX8_wordOf 50 = .ok (.invokevirtual 72, 3) := by decide +kernel
theorem dX8_wordOf_53 : decode cX8_wordOf 53 = .ok (.ifCond .eq 7, 3) := by decide +kernel
theorem dX8_wordOf_56 : decode cX8_wordOf 56 = .ok (.sipush 263, 3) := by decide +kernel
theorem dX8_wordOf_59 : decode cX8_wordOf 59 = .ok (.ireturn, 1) := by decide +kernel
theorem dX8_wordOf_60 : decode cX8_wordOf 60 = .ok (.aload_n 0, 1) := by decide +kernel
theorem dX8_wordOf_61 : decode cX8_wordOf 61 = .ok (.iload_n 1, 1) := by decide +kernel
theorem dX8_wordOf_62 : decode cX8_wordOf 62 = .ok (.iload_n 2, 1) := by decide +kernel
theorem dX8_wordOf_63 : decode cX8_wordOf 63 = .ok (.ldc 82, 2) := by decide +kernel
theorem dX8_wordOf_65 : decode cX8_wordOf 65 = .ok (.invokevirtual 72, 3) := by decide +kernel
theorem dX8_wordOf_68 : decode cX8_wordOf 68 = .ok (.ifCond .eq 7, 3) := by decide +kernel
theorem dX8_wordOf_71 : decode cX8_wordOf 71 = .ok (.sipush 264, 3) := by decide +kernel
theorem dX8_wordOf_74 : decode cX8_wordOf 74 = .ok (.ireturn, 1) := by decide +kernel
theorem dX8_wordOf_75 : decode cX8_wordOf 75 = .ok (.aload_n 0, 1) := by decide +kernel
theorem dX8_wordOf_76 : decode cX8_wordOf 76 = .ok (.iload_n 1, 1) := by decide +kernel
theorem dX8_wordOf_77 : decode cX8_wordOf 77 = .ok (.iload_n 2, 1) := by decide +kernel
theorem dX8_wordOf_78 : decode cX8_wordOf 78 = .ok (.ldc 84, 2) := by decide +kernel
theorem dX8_wordOf_80 : decode cX8_wordOf 80 = .ok (.invokevirtual 72, 3) := by decide +kernel
theorem dX8_wordOf_83 : decode cX8_wordOf 83 = .ok (.ifCond .eq 7, 3) := by decide +kernel
theorem dX8_wordOf_86 : decode cX8_wordOf 86 = .ok (.sipush 265, 3) := by decide +kernel
theorem dX8_wordOf_89 : decode cX8_wordOf 89 = .ok (.ireturn, 1) := by decide +kernel
theorem dX8_wordOf_90 : decode cX8_wordOf 90 = .ok (.aload_n 0, 1) := by decide +kernel
theorem dX8_wordOf_91 : decode cX8_wordOf 91 = .ok (.iload_n 1, 1) := by decide +kernel
theorem dX8_wordOf_92 : decode cX8_wordOf 92 = .ok (.iload_n 2, 1) := by decide +kernel
theorem dX8_wordOf_93 : decode cX8_wordOf 93 = .ok (.ldc 86, 2) := by decide +kernel
theorem dX8_wordOf_95 : decode cX8_wordOf 95 = .ok (.invokevirtual 72, 3) := by decide +kernel
theorem dX8_wordOf_98 : decode cX8_wordOf 98 = .ok (.ifCond .eq 7, 3) := by decide +kernel
theorem dX8_wordOf_101 : decode cX8_wordOf 101 = .ok (.sipush 266, 3) := by decide +kernel
theorem dX8_wordOf_104 : decode cX8_wordOf 104 = .ok (.ireturn, 1) := by decide +kernel
theorem dX8_wordOf_105 : decode cX8_wordOf 105 = .ok (.aload_n 0, 1) := by decide +kernel
theorem dX8_wordOf_106 : decode cX8_wordOf 106 = .ok (.iload_n 1, 1) := by decide +kernel
theorem dX8_wordOf_107 : decode cX8_wordOf 107 = .ok (.iload_n 2, 1) := by decide +kernel
theorem dX8_wordOf_108 : decode cX8_wordOf 108 = .ok (.ldc 88, 2) := by decide +kernel
theorem dX8_wordOf_110 : decode cX8_wordOf 110 = .ok (.invokevirtual 72, 3) := by decide +kernel
theorem dX8_wordOf_113 : decode cX8_wordOf 113 = .ok (.ifCond .eq 7, 3) := by decide +kernel
theorem dX8_wordOf_116 : decode cX8_wordOf 116 = .ok (.sipush 280, 3) := by decide +kernel
theorem dX8_wordOf_119 : decode cX8_wordOf 119 = .ok (.ireturn, 1) := by decide +kernel
theorem dX8_wordOf_120 : decode cX8_wordOf 120 = .ok (.aload_n 0, 1) := by decide +kernel
theorem dX8_wordOf_121 : decode cX8_wordOf 121 = .ok (.iload_n 1, 1) := by decide +kernel
theorem dX8_wordOf_122 : decode cX8_wordOf 122 = .ok (.iload_n 2, 1) := by decide +kernel
theorem dX8_wordOf_123 : decode cX8_wordOf 123 = .ok (.ldc 90, 2) := by decide +kernel
theorem dX8_wordOf_125 : decode cX8_wordOf 125 = .ok (.invokevirtual 72, 3) := by decide +kernel
theorem dX8_wordOf_128 : decode cX8_wordOf 128 = .ok (.ifCond .eq 7, 3) := by decide +kernel
theorem dX8_wordOf_131 : decode cX8_wordOf 131 = .ok (.sipush 281, 3) := by decide +kernel
theorem dX8_wordOf_134 : decode cX8_wordOf 134 = .ok (.ireturn, 1) := by decide +kernel
theorem dX8_wordOf_135 : decode cX8_wordOf 135 = .ok (.aload_n 0, 1) := by decide +kernel
theorem dX8_wordOf_136 : decode cX8_wordOf 136 = .ok (.iload_n 1, 1) := by decide +kernel
theorem dX8_wordOf_137 : decode cX8_wordOf 137 = .ok (.iload_n 2, 1) := by decide +kernel
theorem dX8_wordOf_138 : decode cX8_wordOf 138 = .ok (.ldc 91, 2) := by decide +kernel
theorem dX8_wordOf_140 : decode cX8_wordOf 140 = .ok (.invokevirtual 72, 3) := by decide +kernel
theorem dX8_wordOf_143 : decode cX8_wordOf 143 = .ok (.ifCond .eq 7, 3) := by decide +kernel
theorem dX8_wordOf_146 : decode cX8_wordOf 146 = .ok (.sipush 282, 3) := by decide +kernel
theorem dX8_wordOf_149 : decode cX8_wordOf 149 = .ok (.ireturn, 1) := by decide +kernel
theorem dX8_wordOf_150 : decode cX8_wordOf 150 = .ok (.aload_n 0, 1) := by decide +kernel
theorem dX8_wordOf_151 : decode cX8_wordOf 151 = .ok (.iload_n 1, 1) := by decide +kernel
theorem dX8_wordOf_152 : decode cX8_wordOf 152 = .ok (.iload_n 2, 1) := by decide +kernel
theorem dX8_wordOf_153 : decode cX8_wordOf 153 = .ok (.ldc 93, 2) := by decide +kernel
theorem dX8_wordOf_155 : decode cX8_wordOf 155 = .ok (.invokevirtual 72, 3) := by decide +kernel
theorem dX8_wordOf_158 : decode cX8_wordOf 158 = .ok (.ifCond .eq 7, 3) := by decide +kernel
theorem dX8_wordOf_161 : decode cX8_wordOf 161 = .ok (.sipush 283, 3) := by decide +kernel
theorem dX8_wordOf_164 : decode cX8_wordOf 164 = .ok (.ireturn, 1) := by decide +kernel
theorem dX8_wordOf_165 : decode cX8_wordOf 165 = .ok (.aload_n 0, 1) := by decide +kernel
theorem dX8_wordOf_166 : decode cX8_wordOf 166 = .ok (.iload_n 1, 1) := by decide +kernel
theorem dX8_wordOf_167 : decode cX8_wordOf 167 = .ok (.iload_n 2, 1) := by decide +kernel
theorem dX8_wordOf_168 : decode cX8_wordOf 168 = .ok (.ldc 95, 2) := by decide +kernel
theorem dX8_wordOf_170 : decode cX8_wordOf 170 = .ok (.invokevirtual 72, 3) := by decide +kernel
theorem dX8_wordOf_173 : decode cX8_wordOf 173 = .ok (.ifCond .eq 7, 3) := by decide +kernel
theorem dX8_wordOf_176 : decode cX8_wordOf 176 = .ok (.sipush 284, 3) := by decide +kernel
theorem dX8_wordOf_179 : decode cX8_wordOf 179 = .ok (.ireturn, 1) := by decide +kernel
theorem dX8_wordOf_180 : decode cX8_wordOf 180 = .ok (.aload_n 0, 1) := by decide +kernel
theorem dX8_wordOf_181 : decode cX8_wordOf 181 = .ok (.iload_n 1, 1) := by decide +kernel
theorem dX8_wordOf_182 : decode cX8_wordOf 182 = .ok (.iload_n 2, 1) := by decide +kernel
theorem dX8_wordOf_183 : decode cX8_wordOf 183 = .ok (.ldc 97, 2) := by decide +kernel
theorem dX8_wordOf_185 : decode cX8_wordOf 185 = .ok (.invokevirtual 72, 3) := by decide +kernel
theorem dX8_wordOf_188 : decode cX8_wordOf 188 = .ok (.ifCond .eq 7, 3) := by decide +kernel
theorem dX8_wordOf_191 : decode cX8_wordOf 191 = .ok (.sipush 285, 3) := by decide +kernel
theorem dX8_wordOf_194 : decode cX8_wordOf 194 = .ok (.ireturn, 1) := by decide +kernel
theorem dX8_wordOf_195 : decode cX8_wordOf 195 = .ok (.aload_n 0, 1) := by decide +kernel
theorem dX8_wordOf_196 : decode cX8_wordOf 196 = .ok (.iload_n 1, 1) := by decide +kernel
theorem dX8_wordOf_197 : decode cX8_wordOf 197 = .ok (.iload_n 2, 1) := by decide +kernel
theorem dX8_wordOf_198 : decode cX8_wordOf 198 = .ok (.ldc 99, 2) := by decide +kernel
theorem dX8_wordOf_200 : decode cX8_wordOf 200 = .ok (.invokevirtual 72, 3) := by decide +kernel
theorem dX8_wordOf_203 : decode cX8_wordOf 203 = .ok (.ifCond .eq 7, 3) := by decide +kernel
theorem dX8_wordOf_206 : decode cX8_wordOf 206 = .ok (.sipush 286, 3) := by decide +kernel
theorem dX8_wordOf_209 : decode cX8_wordOf 209 = .ok (.ireturn, 1) := by decide +kernel
theorem dX8_wordOf_210 : decode cX8_wordOf 210 = .ok (.aload_n 0, 1) := by decide +kernel
theorem dX8_wordOf_211 : decode cX8_wordOf 211 = .ok (.iload_n 1, 1) := by decide +kernel
theorem dX8_wordOf_212 : decode cX8_wordOf 212 = .ok (.iload_n 2, 1) := by decide +kernel
theorem dX8_wordOf_213 : decode cX8_wordOf 213 = .ok (.ldc 101, 2) := by decide +kernel
theorem dX8_wordOf_215 : decode cX8_wordOf 215 = .ok (.invokevirtual 72, 3) := by decide +kernel
theorem dX8_wordOf_218 : decode cX8_wordOf 218 = .ok (.ifCond .eq 7, 3) := by decide +kernel
theorem dX8_wordOf_221 : decode cX8_wordOf 221 = .ok (.sipush 287, 3) := by decide +kernel
theorem dX8_wordOf_224 : decode cX8_wordOf 224 = .ok (.ireturn, 1) := by decide +kernel
theorem dX8_wordOf_225 : decode cX8_wordOf 225 = .ok (.aload_n 0, 1) := by decide +kernel
theorem dX8_wordOf_226 : decode cX8_wordOf 226 = .ok (.iload_n 1, 1) := by decide +kernel
theorem dX8_wordOf_227 : decode cX8_wordOf 227 = .ok (.iload_n 2, 1) := by decide +kernel
theorem dX8_wordOf_228 : decode cX8_wordOf 228 = .ok (.ldc 103, 2) := by decide +kernel
theorem dX8_wordOf_230 : decode cX8_wordOf 230 = .ok (.invokevirtual 72, 3) := by decide +kernel
theorem dX8_wordOf_233 : decode cX8_wordOf 233 = .ok (.ifCond .eq 7, 3) := by decide +kernel
theorem dX8_wordOf_236 : decode cX8_wordOf 236 = .ok (.sipush 288, 3) := by decide +kernel
theorem dX8_wordOf_239 : decode cX8_wordOf 239 = .ok (.ireturn, 1) := by decide +kernel
theorem dX8_wordOf_240 : decode cX8_wordOf 240 = .ok (.aload_n 0, 1) := by decide +kernel
theorem dX8_wordOf_241 : decode cX8_wordOf 241 = .ok (.iload_n 1, 1) := by decide +kernel
theorem dX8_wordOf_242 : decode cX8_wordOf 242 = .ok (.iload_n 2, 1) := by decide +kernel
theorem dX8_wordOf_243 : decode cX8_wordOf 243 = .ok (.ldc 105, 2) := by decide +kernel
theorem dX8_wordOf_245 : decode cX8_wordOf 245 = .ok (.invokevirtual 72, 3) := by decide +kernel
theorem dX8_wordOf_248 : decode cX8_wordOf 248 = .ok (.ifCond .eq 7, 3) := by decide +kernel
theorem dX8_wordOf_251 : decode cX8_wordOf 251 = .ok (.sipush 289, 3) := by decide +kernel
theorem dX8_wordOf_254 : decode cX8_wordOf 254 = .ok (.ireturn, 1) := by decide +kernel
theorem dX8_wordOf_255 : decode cX8_wordOf 255 = .ok (.aload_n 0, 1) := by decide +kernel
theorem dX8_wordOf_256 : decode cX8_wordOf 256 = .ok (.iload_n 1, 1) := by decide +kernel
theorem dX8_wordOf_257 : decode cX8_wordOf 257 = .ok (.iload_n 2, 1) := by decide +kernel
theorem dX8_wordOf_258 : decode cX8_wordOf 258 = .ok (.ldc 107, 2) := by decide +kernel
theorem dX8_wordOf_260 : decode cX8_wordOf 260 = .ok (.invokevirtual 72, 3) := by decide +kernel
theorem dX8_wordOf_263 : decode cX8_wordOf 263 = .ok (.ifCond .eq 7, 3) := by decide +kernel
theorem dX8_wordOf_266 : decode cX8_wordOf 266 = .ok (.sipush 290, 3) := by decide +kernel
theorem dX8_wordOf_269 : decode cX8_wordOf 269 = .ok (.ireturn, 1) := by decide +kernel
theorem dX8_wordOf_270 : decode cX8_wordOf 270 = .ok (.aload_n 0, 1) := by decide +kernel
theorem dX8_wordOf_271 : decode cX8_wordOf 271 = .ok (.iload_n 1, 1) := by decide +kernel
theorem dX8_wordOf_272 : decode cX8_wordOf 272 = .ok (.iload_n 2, 1) := by decide +kernel
theorem dX8_wordOf_273 : decode cX8_wordOf 273 = .ok (.invokevirtual 109, 3) := by decide +kernel
theorem dX8_wordOf_276 : decode cX8_wordOf 276 = .ok (.ireturn, 1) := by decide +kernel
theorem dX8_nounOf_0 : decode cX8_nounOf 0 = .ok (.aload_n 0, 1) := by decide +kernel
theorem dX8_nounOf_1 : decode cX8_nounOf 1 = .ok (.iload_n 1, 1) := by decide +kernel
theorem dX8_nounOf_2 : decode cX8_nounOf 2 = .ok (.iload_n 2, 1) := by decide +kernel
theorem dX8_nounOf_3 : decode cX8_nounOf 3 = .ok (.ldc 112, 2) := by decide +kernel
theorem dX8_nounOf_5 : decode cX8_nounOf 5 = .ok (.invokevirtual 72, 3) := by decide +kernel
theorem dX8_nounOf_8 : decode cX8_nounOf 8 = .ok (.ifCond .eq 7, 3) := by decide +kernel
theorem dX8_nounOf_11 : decode cX8_nounOf 11 = .ok (.sipush 270, 3) := by decide +kernel
theorem dX8_nounOf_14 : decode cX8_nounOf 14 = .ok (.ireturn, 1) := by decide +kernel
theorem dX8_nounOf_15 : decode cX8_nounOf 15 = .ok (.aload_n 0, 1) := by decide +kernel
theorem dX8_nounOf_16 : decode cX8_nounOf 16 = .ok (.iload_n 1, 1) := by decide +kernel
theorem dX8_nounOf_17 : decode cX8_nounOf 17 = .ok (.iload_n 2, 1) := by decide +kernel
theorem dX8_nounOf_18 : decode cX8_nounOf 18 = .ok (.ldc 114, 2) := by decide +kernel
theorem dX8_nounOf_20 : decode cX8_nounOf 20 = .ok (.invokevirtual 72, 3) := by decide +kernel
theorem dX8_nounOf_23 : decode cX8_nounOf 23 = .ok (.ifCond .eq 7, 3) := by decide +kernel
theorem dX8_nounOf_26 : decode cX8_nounOf 26 = .ok (.sipush 271, 3) := by decide +kernel
theorem dX8_nounOf_29 : decode cX8_nounOf 29 = .ok (.ireturn, 1) := by decide +kernel
theorem dX8_nounOf_30 : decode cX8_nounOf 30 = .ok (.aload_n 0, 1) := by decide +kernel
theorem dX8_nounOf_31 : decode cX8_nounOf 31 = .ok (.iload_n 1, 1) := by decide +kernel
theorem dX8_nounOf_32 : decode cX8_nounOf 32 = .ok (.iload_n 2, 1) := by decide +kernel
theorem dX8_nounOf_33 : decode cX8_nounOf 33 = .ok (.ldc 116, 2) := by decide +kernel
theorem dX8_nounOf_35 : decode cX8_nounOf 35 = .ok (.invokevirtual 72, 3) := by decide +kernel
theorem dX8_nounOf_38 : decode cX8_nounOf 38 = .ok (.ifCond .eq 7, 3) := by decide +kernel
theorem dX8_nounOf_41 : decode cX8_nounOf 41 = .ok (.sipush 272, 3) := by decide +kernel
theorem dX8_nounOf_44 : decode cX8_nounOf 44 = .ok (.ireturn, 1) := by decide +kernel
theorem dX8_nounOf_45 : decode cX8_nounOf 45 = .ok (.aload_n 0, 1) := by decide +kernel
theorem dX8_nounOf_46 : decode cX8_nounOf 46 = .ok (.iload_n 1, 1) := by decide +kernel
theorem dX8_nounOf_47 : decode cX8_nounOf 47 = .ok (.iload_n 2, 1) := by decide +kernel
theorem dX8_nounOf_48 : decode cX8_nounOf 48 = .ok (.ldc 118, 2) := by decide +kernel
theorem dX8_nounOf_50 : decode cX8_nounOf 50 = .ok (.invokevirtual 72, 3) := by decide +kernel
theorem dX8_nounOf_53 : decode cX8_nounOf 53 = .ok (.ifCond .eq 7, 3) := by decide +kernel
theorem dX8_nounOf_56 : decode cX8_nounOf 56 = .ok (.sipush 273, 3) := by decide +kernel
theorem dX8_nounOf_59 : decode cX8_nounOf 59 = .ok (.ireturn, 1) := by decide +kernel
theorem dX8_nounOf_60 : decode cX8_nounOf 60 = .ok (.aload_n 0, 1) := by decide +kernel
theorem dX8_nounOf_61 : decode cX8_nounOf 61 = .ok (.iload_n 1, 1) := by decide +kernel
theorem dX8_nounOf_62 : decode cX8_nounOf 62 = .ok (.iload_n 2, 1) := by decide +kernel
theorem dX8_nounOf_63 : decode cX8_nounOf 63 = .ok (.ldc 120, 2) := by decide +kernel
theorem dX8_nounOf_65 : decode cX8_nounOf 65 = .ok (.invokevirtual 72, 3) := by decide +kernel
theorem dX8_nounOf_68 : decode cX8_nounOf 68 = .ok (.ifCond .eq 7, 3) := by decide +kernel
theorem dX8_nounOf_71 : decode cX8_nounOf 71 = .ok (.sipush 274, 3) := by decide +kernel
theorem dX8_nounOf_74 : decode cX8_nounOf 74 = .ok (.ireturn, 1) := by decide +kernel
theorem dX8_nounOf_75 : decode cX8_nounOf 75 = .ok (.aload_n 0, 1) := by decide +kernel
theorem dX8_nounOf_76 : decode cX8_nounOf 76 = .ok (.iload_n 1, 1) := by decide +kernel
theorem dX8_nounOf_77 : decode cX8_nounOf 77 = .ok (.iload_n 2, 1) := by decide +kernel
theorem dX8_nounOf_78 : decode cX8_nounOf 78 = .ok (.ldc 122, 2) := by decide +kernel
theorem dX8_nounOf_80 : decode cX8_nounOf 80 = .ok (.invokevirtual 72, 3) := by decide +kernel
theorem dX8_nounOf_83 : decode cX8_nounOf 83 = .ok (.ifCond .eq 7, 3) := by decide +kernel
theorem dX8_nounOf_86 : decode cX8_nounOf 86 = .ok (.sipush 275, 3) := by decide +kernel
theorem dX8_nounOf_89 : decode cX8_nounOf 89 = .ok (.ireturn, 1) := by decide +kernel
theorem dX8_nounOf_90 : decode cX8_nounOf 90 = .ok (.aload_n 0, 1) := by decide +kernel
theorem dX8_nounOf_91 : decode cX8_nounOf 91 = .ok (.iload_n 1, 1) := by decide +kernel
theorem dX8_nounOf_92 : decode cX8_nounOf 92 = .ok (.iload_n 2, 1) := by decide +kernel
theorem dX8_nounOf_93 : decode cX8_nounOf 93 = .ok (.ldc 124, 2) := by decide +kernel
theorem dX8_nounOf_95 : decode cX8_nounOf 95 = .ok (.invokevirtual 72, 3) := by decide +kernel
theorem dX8_nounOf_98 : decode cX8_nounOf 98 = .ok (.ifCond .eq 7, 3) := by decide +kernel
theorem dX8_nounOf_101 : decode cX8_nounOf 101 = .ok (.sipush 276, 3) := by decide +kernel
theorem dX8_nounOf_104 : decode cX8_nounOf 104 = .ok (.ireturn, 1) := by decide +kernel
theorem dX8_nounOf_105 : decode cX8_nounOf 105 = .ok (.aload_n 0, 1) := by decide +kernel
theorem dX8_nounOf_106 : decode cX8_nounOf 106 = .ok (.iload_n 1, 1) := by decide +kernel
theorem dX8_nounOf_107 : decode cX8_nounOf 107 = .ok (.iload_n 2, 1) := by decide +kernel
theorem dX8_nounOf_108 : decode cX8_nounOf 108 = .ok (.ldc 126, 2) := by decide +kernel
theorem dX8_nounOf_110 : decode cX8_nounOf 110 = .ok (.invokevirtual 72, 3) := by decide +kernel
theorem dX8_nounOf_113 : decode cX8_nounOf 113 = .ok (.ifCond .eq 7, 3) := by decide +kernel
theorem dX8_nounOf_116 : decode cX8_nounOf 116 = .ok (.sipush 277, 3) := by decide +kernel
theorem dX8_nounOf_119 : decode cX8_nounOf 119 = .ok (.ireturn, 1) := by decide +kernel
theorem dX8_nounOf_120 : decode cX8_nounOf 120 = .ok (.aload_n 0, 1) := by decide +kernel
theorem dX8_nounOf_121 : decode cX8_nounOf 121 = .ok (.iload_n 1, 1) := by decide +kernel
theorem dX8_nounOf_122 : decode cX8_nounOf 122 = .ok (.iload_n 2, 1) := by decide +kernel
theorem dX8_nounOf_123 : decode cX8_nounOf 123 = .ok (.ldc 128, 2) := by decide +kernel
theorem dX8_nounOf_125 : decode cX8_nounOf 125 = .ok (.invokevirtual 72, 3) := by decide +kernel
theorem dX8_nounOf_128 : decode cX8_nounOf 128 = .ok (.ifCond .eq 7, 3) := by decide +kernel
theorem dX8_nounOf_131 : decode cX8_nounOf 131 = .ok (.sipush 278, 3) := by decide +kernel
theorem dX8_nounOf_134 : decode cX8_nounOf 134 = .ok (.ireturn, 1) := by decide +kernel
theorem dX8_nounOf_135 : decode cX8_nounOf 135 = .ok (.aload_n 0, 1) := by decide +kernel
theorem dX8_nounOf_136 : decode cX8_nounOf 136 = .ok (.iload_n 1, 1) := by decide +kernel
theorem dX8_nounOf_137 : decode cX8_nounOf 137 = .ok (.iload_n 2, 1) := by decide +kernel
theorem dX8_nounOf_138 : decode cX8_nounOf 138 = .ok (.ldc 130, 2) := by decide +kernel
theorem dX8_nounOf_140 : decode cX8_nounOf 140 = .ok (.invokevirtual 72, 3) := by decide +kernel
theorem dX8_nounOf_143 : decode cX8_nounOf 143 = .ok (.ifCond .eq 7, 3) := by decide +kernel
theorem dX8_nounOf_146 : decode cX8_nounOf 146 = .ok (.sipush 279, 3) := by decide +kernel
theorem dX8_nounOf_149 : decode cX8_nounOf 149 = .ok (.ireturn, 1) := by decide +kernel
theorem dX8_nounOf_150 : decode cX8_nounOf 150 = .ok (.sipush 258, 3) := by decide +kernel
theorem dX8_nounOf_153 : decode cX8_nounOf 153 = .ok (.ireturn, 1) := by decide +kernel
theorem dX9_init_0 : decode cX9_init 0 = .ok (.aload_n 0, 1) := by decide +kernel
theorem dX9_init_1 : decode cX9_init 1 = .ok (.invokespecial 3, 3) := by decide +kernel
theorem dX9_init_4 : decode cX9_init 4 = .ok (.aload_n 0, 1) := by decide +kernel
theorem dX9_init_5 : decode cX9_init 5 = .ok (.new 9, 3) := by decide +kernel
theorem dX9_init_8 : decode cX9_init 8 = .ok (.dup, 1) := by decide +kernel
theorem dX9_init_9 : decode cX9_init 9 = .ok (.iconst 4, 1) := by decide +kernel
theorem dX9_init_10 : decode cX9_init 10 = .ok (.bipush 16, 2) := by decide +kernel
theorem dX9_init_12 : decode cX9_init 12 = .ok (.invokespecial 11, 3) := by decide +kernel
theorem dX9_init_15 : decode cX9_init 15 = .ok (.putfield 14, 3) := by decide +kernel
theorem dX9_init_18 : decode cX9_init 18 = .ok (.aload_n 0, 1) := by decide +kernel
theorem dX9_init_19 : decode cX9_init 19 = .ok (.new 9, 3) := by decide +kernel
theorem dX9_init_22 : decode cX9_init 22 = .ok (.dup, 1) := by decide +kernel
theorem dX9_init_23 : decode cX9_init 23 = .ok (.iconst 1, 1) := by decide +kernel
theorem dX9_init_24 : decode cX9_init 24 = .ok (.sipush 400, 3) := by decide +kernel
theorem dX9_init_27 : decode cX9_init 27 = .ok (.invokespecial 11, 3) := by decide +kernel
theorem dX9_init_30 : decode cX9_init 30 = .ok (.putfield 20, 3) := by decide +kernel
theorem dX9_init_33 : decode cX9_init 33 = .ok (.aload_n 0, 1) := by decide +kernel
theorem dX9_init_34 : decode cX9_init 34 = .ok (.new 9, 3) := by decide +kernel
theorem dX9_init_37 : decode cX9_init 37 = .ok (.dup, 1) := by decide +kernel
theorem dX9_init_38 : decode cX9_init 38 = .ok (.iconst 4, 1) := by decide +kernel
theorem dX9_init_39 : decode cX9_init 39 = .ok (.bipush 16, 2) := by decide +kernel
theorem dX9_init_41 : decode cX9_init 41 = .ok (.invokespecial 11, 3) := by decide +kernel
theorem dX9_init_44 : decode cX9_init 44 = .ok (.putfield 23, 3) := by decide +kernel
theorem dX9_init_47 : decode cX9_init 47 = .ok (.aload_n 0, 1) := by decide +kernel
theorem dX9_init_48 : decode cX9_init 48 = .ok (.new 9, 3) := by decide +kernel
theorem dX9_init_51 : decode cX9_init 51 = .ok (.dup, 1) := by decide +kernel
theorem dX9_init_52 : decode cX9_init 52 = .ok (.iconst 4, 1) := by decide +kernel
theorem dX9_init_53 : decode cX9_init 53 = .ok (.bipush 16, 2) := by decide +kernel
theorem dX9_init_55 : decode cX9_init 55 = .ok (.invokespecial 11, 3) := by decide +kernel
theorem dX9_init_58 : decode cX9_init 58 = .ok (.putfield 26, 3) := by decide +kernel
theorem dX9_init_61 : decode cX9_init 61 = .ok (.aload_n 0, 1) := by decide +kernel
theorem dX9_init_62 : decode cX9_init 62 = .ok (.new 9, 3) := by decide +kernel
theorem dX9_init_65 : decode cX9_init 65 = .ok (.dup, 1) := by decide +kernel
theorem dX9_init_66 : decode cX9_init 66 = .ok (.iconst 4, 1) := by decide +kernel
theorem dX9_init_67 : decode cX9_init 67 = .ok (.bipush 16, 2) := by decide +kernel
theorem dX9_init_69 : decode cX9_init 69 = .ok (.invokespecial 11, 3) := by decide +kernel
theorem dX9_init_72 : decode cX9_init 72 = .ok (.putfield 29, 3) := by decide +kernel
theorem dX9_init_75 : decode cX9_init 75 = .ok (.aload_n 0, 1) := by decide +kernel
theorem dX9_init_76 : decode cX9_init 76 = .ok (.new 9, 3) := by decide +kernel
theorem dX9_init_79 : decode cX9_init 79 = .ok (.dup, 1) := by decide +kernel
theorem dX9_init_80 : decode cX9_init 80 = .ok (.iconst 5, 1) := by decide +kernel
theorem dX9_init_81 : decode cX9_init 81 = .ok (.bipush 10, 2) := by decide +kernel
theorem dX9_init_83 : decode cX9_init 83 = .ok (.invokespecial 11, 3) := by decide +kernel
theorem dX9_init_86 : decode cX9_init 86 = .ok (.putfield 32, 3) := by decide +kernel
theorem dX9_init_89 : decode cX9_init 89 = .ok (.aload_n 0, 1) := by decide +kernel
theorem dX9_init_90 : decode cX9_init 90 = .ok (.new 9, 3) := by decide +kernel
theorem dX9_init_93 : decode cX9_init 93 = .ok (.dup, 1) := by decide +kernel
theorem dX9_init_94 : decode cX9_init 94 = .ok (.iconst 2, 1) := by decide +kernel
theorem dX9_init_95 : decode cX9_init 95 = .ok (.iconst 5, 1) := by decide +kernel
theorem dX9_init_96 : decode cX9_init 96 = .ok (.invokespecial 11, 3) := by decide +kernel
theorem dX9_init_99 : decode cX9_init 99 = .ok (.putfield 35, 3) := by decide +kernel
theorem dX9_init_102 : decode cX9_init 102 = .ok (.aload_n 0, 1) := by decide +kernel
theorem dX9_init_103 : decode cX9_init 103 = .ok (.new 9, 3) := by decide +kernel
theorem dX9_init_106 : decode cX9_init 106 = .ok (.dup, 1) := by decide +kernel
theorem dX9_init_107 : decode cX9_init 107 = .ok (.iconst 4, 1) := by decide +kernel
theorem dX9_init_108 : decode cX9_init 108 = .ok (.bipush 12, 2) := by decide +kernel
theorem dX9_init_110 : decode cX9_init 110 = .ok (.invokespecial 11, 3) := by decide +kernel
theorem dX9_init_113 : decode cX9_init 113 = .ok (.putfield 38, 3) := by decide +kernel
theorem dX9_init_116 : decode cX9_init 116 = .ok (.aload_n 0, 1) := by decide +kernel
theorem dX9_init_117 : decode cX9_init 117 = .ok (.new 9, 3) := by decide +kernel
theorem dX9_init_120 : decode cX9_init 120 = .ok (.dup, 1) := by decide +kernel
theorem dX9_init_121 : decode cX9_init 121 = .ok (.iconst 1, 1) := by decide +kernel
theorem dX9_init_122 : decode cX9_init 122 = .ok (.bipush 8, 2) := by decide +kernel
theorem dX9_init_124 : decode cX9_init 124 = .ok (.invokespecial 11, 3) := by decide +kernel
theorem dX9_init_127 : decode cX9_init 127 = .ok (.putfield 41, 3) := by decide +kernel
theorem dX9_init_130 : decode cX9_init 130 = .ok (.aload_n 0, 1) := by decide +kernel
theorem dX9_init_131 : decode cX9_init 131 = .ok (.new 9, 3) := by decide +kernel
theorem dX9_init_134 : decode cX9_init 134 = .ok (.dup, 1) := by decide +kernel
theorem dX9_init_135 : decode cX9_init 135 = .ok (.iconst 1, 1) := by decide +kernel
theorem dX9_init_136 : decode cX9_init 136 = .ok (.bipush 12, 2) := by decide +kernel
theorem dX9_init_138 : decode cX9_init 138 = .ok (.invokespecial 11, 3) := by decide +kernel
theorem dX9_init_141 : decode cX9_init 141 = .ok (.putfield 44, 3) := by decide +kernel
theorem dX9_init_144 : decode cX9_init 144 = .ok (.aload_n 0, 1) := by decide +kernel
theorem dX9_init_145 : decode cX9_init 145 = .ok (.new 9, 3) := by decide +kernel
theorem dX9_init_148 : decode cX9_init 148 = .ok (.dup, 1) := by decide +kernel
theorem dX9_init_149 : decode cX9_init 149 = .ok (.iconst 1, 1) := by decide +kernel
theorem dX9_init_150 : decode cX9_init 150 = .ok (.bipush 24, 2) := by decide +kernel
theorem dX9_init_152 : decode cX9_init 152 = .ok (.invokespecial 11, 3) := by decide +kernel
theorem dX9_init_155 : decode cX9_init 155 = .ok (.putfield 47, 3) := by decide +kernel
theorem dX9_init_158 : decode cX9_init 158 = .ok (.aload_n 0, 1) := by decide +kernel
theorem dX9_init_159 : decode cX9_init 159 = .ok (.new 9, 3) := by decide +kernel
theorem dX9_init_162 : decode cX9_init 162 = .ok (.dup, 1) := by decide +kernel
theorem dX9_init_163 : decode cX9_init 163 = .ok (.iconst 1, 1) := by decide +kernel
theorem dX9_init_164 : decode cX9_init 164 = .ok (.bipush 12, 2) := by decide +kernel
theorem dX9_init_166 : decode cX9_init 166 = .ok (.invokespecial 11, 3) := by decide +kernel
theorem dX9_init_169 : decode cX9_init 169 = .ok (.putfield 50, 3) := by decide +kernel
theorem dX9_init_172 : decode cX9_init 172 = .ok (.aload_n 0, 1) := by decide +kernel
theorem dX9_init_173 : decode cX9_init 173 = .ok (.new 9, 3) := by decide +kernel
theorem dX9_init_176 : decode cX9_init 176 = .ok (.dup, 1) := by decide +kernel
theorem dX9_init_177 : decode cX9_init 177 = .ok (.iconst 1, 1) := by decide +kernel
theorem dX9_init_178 : decode cX9_init 178 = .ok (.bipush 12, 2) := by decide +kernel
theorem dX9_init_180 : decode cX9_init 180 = .ok (.invokespecial 11, 3) := by decide +kernel
theorem dX9_init_183 : decode cX9_init 183 = .ok (.putfield 53, 3) := by decide +kernel
theorem dX9_init_186 : decode cX9_init 186 = .ok (.aload_n 0, 1) := by decide +kernel
theorem dX9_init_187 : decode cX9_init 187 = .ok (.new 9, 3) := by decide +kernel
theorem dX9_init_190 : decode cX9_init 190 = .ok (.dup, 1) := by decide +kernel
theorem dX9_init_191 : decode cX9_init 191 = .ok (.iconst 1, 1) := by decide +kernel
theorem dX9_init_192 : decode cX9_init 192 = .ok (.bipush 24, 2) := by decide +kernel
theorem dX9_init_194 : decode cX9_init 194 = .ok (.invokespecial 11, 3) := by decide +kernel
theorem dX9_init_197 : decode cX9_init 197 = .ok (.putfield 56, 3) := by decide +kernel
theorem dX9_init_200 : decode cX9_init 200 = .ok (.aload_n 0, 1) := by decide +kernel
theorem dX9_init_201 : decode cX9_init 201 = .ok (.new 9, 3) := by decide +kernel
theorem dX9_init_204 : decode cX9_init 204 = .ok (.dup, 1) := by decide +kernel
theorem dX9_init_205 : decode cX9_init 205 = .ok (.iconst 1, 1) := by decide +kernel
theorem dX9_init_206 : decode cX9_init 206 = .ok (.bipush 8, 2) := by decide +kernel
theorem dX9_init_208 : decode cX9_init 208 = .ok (.invokespecial 11, 3) := by decide +kernel
theorem dX9_init_211 : decode cX9_init 211 = .ok (.putfield 59, 3) := by decide +kernel
theorem dX9_init_214 : decode cX9_init 214 = .ok (.aload_n 0, 1) := by decide +kernel
theorem dX9_init_215 : decode cX9_init 215 = .ok (.new 9, 3) := by decide +kernel
theorem dX9_init_218 : decode cX9_init 218 = .ok (.dup, 1) := by decide +kernel
theorem dX9_init_219 : decode cX9_init 219 = .ok (.iconst 2, 1) := by decide +kernel
theorem dX9_init_220 : decode cX9_init 220 = .ok (.bipush 8, 2) := by decide +kernel
theorem dX9_init_222 : decode cX9_init 222 = .ok (.invokespecial 11, 3) := by decide +kernel
theorem dX9_init_225 : decode cX9_init 225 = .ok (.putfield 62, 3) := by decide +kernel
theorem dX9_init_228 : decode cX9_init 228 = .ok (.iconst 0, 1) := by decide +kernel
theorem dX9_init_229 : decode cX9_init 229 = .ok (.istore_n 1, 1) := by decide +kernel
theorem dX9_init_230 : decode cX9_init 230 = .ok (.iload_n 1, 1) := by decide +kernel
theorem dX9_init_231 : decode cX9_init 231 = .ok (.bipush 10, 2) := by decide +kernel
theorem dX9_init_233 : decode cX9_init 233 = .ok (.if_icmp .ge 22, 3) := by decide +kernel
theorem dX9_init_236 : decode cX9_init 236 = .ok (.aload_n 0, 1) := by decide +kernel
theorem dX9_init_237 : decode cX9_init 237 = .ok (.getfield 32, 3) := by decide +kernel
theorem dX9_init_240 : decode cX9_init 240 = .ok (.iconst 0, 1) := by decide +kernel
theorem dX9_init_241 : decode cX9_init 241 = .ok (.iconst 1, 1) := by decide +kernel
theorem dX9_init_242 : decode cX9_init 242 = .ok (.iconst 2, 1) := by decide +kernel
theorem dX9_init_243 : decode cX9_init 243 = .ok (.iconst 3, 1) := by decide +kernel
theorem dX9_init_244 : decode cX9_init 244 = .ok (.iconst 4, 1) := by decide +kernel
theorem dX9_init_245 : decode cX9_init 245 = .ok (.invokevirtual 65, 3) := by decide +kernel
theorem dX9_init_248 : decode cX9_init 248 = .ok (.pop, 1) := by decide +kernel
theorem dX9_init_249 : decode cX9_init 249 = .ok (.iinc 1 1, 3) := by decide +kernel
theorem dX9_init_252 : decode cX9_init 252 = .ok (.goto (-22), 3) := by decide +kernel
theorem dX9_init_255 : decode cX9_init 255 = .ok (.return_, 1) := by decide +kernel
theorem dX9_linesOf_0 : decode cX9_linesOf 0 = .ok (.iload_n 1, 1) := by decide +kernel
theorem dX9_linesOf_1 : decode cX9_linesOf 1 = .ok (.ifCond .ne 8, 3) := by decide +kernel
theorem dX9_linesOf_4 : decode cX9_linesOf 4 = .ok (.aload_n 0, 1) := by decide +kernel
theorem dX9_linesOf_5 : decode cX9_linesOf 5 = .ok (.getfield 14, 3) := by decide +kernel
theorem dX9_linesOf_8 : decode cX9_linesOf 8 = .ok (.areturn, 1) := by decide +kernel
theorem dX9_linesOf_9 : decode cX9_linesOf 9 = .ok (.iload_n 1, 1) := by decide +kernel
theorem dX9_linesOf_10 : decode cX9_linesOf 10 = .ok (.iconst 1, 1) := by decide +kernel
theorem dX9_linesOf_11 : decode cX9_linesOf 11 = .ok (.if_icmp .ne 8, 3) := by decide +kernel
theorem dX9_linesOf_14 : decode cX9_linesOf 14 = .ok (.aload_n 0, 1) := by decide +kernel
theorem dX9_linesOf_15 : decode cX9_linesOf 15 = .ok (.getfield 23, 3) := by decide +kernel
theorem dX9_linesOf_18 : decode cX9_linesOf 18 = .ok (.areturn, 1) := by decide +kernel
theorem dX9_linesOf_19 : decode cX9_linesOf 19 = .ok (.iload_n 1, 1) := by decide +kernel
theorem dX9_linesOf_20 : decode cX9_linesOf 20 = .ok (.iconst 2, 1) := by decide +kernel
theorem dX9_linesOf_21 : decode cX9_linesOf 21 = .ok (.if_icmp .ne 10, 3) := by decide +kernel
theorem dX9_linesOf_24 : decode cX9_linesOf 24 = .ok (.aload_n 0, 1) := by decide +kernel
theorem dX9_linesOf_25 : decode cX9_linesOf 25 = .ok (.getfield 26, 3) := by decide +kernel
theorem dX9_linesOf_28 : decode cX9_linesOf 28 = .ok (.goto 7, 3) := by decide +kernel
theorem dX9_linesOf_31 : decode cX9_linesOf 31 = .ok (.aload_n 0, 1) := by decide +kernel
theorem dX9_linesOf_32 : decode cX9_linesOf 32 = .ok (.getfield 29, 3) := by decide +kernel
theorem dX9_linesOf_35 : decode cX9_linesOf 35 = .ok (.areturn, 1) := by decide +kernel
theorem dX9_halfOf_0 : decode cX9_halfOf 0 = .ok (.iload_n 1, 1) := by decide +kernel
theorem dX9_halfOf_1 : decode cX9_halfOf 1 = .ok (.ifCond .ne 8, 3) := by decide +kernel
theorem dX9_halfOf_4 : decode cX9_halfOf 4 = .ok (.aload_n 0, 1) := by decide +kernel
theorem dX9_halfOf_5 : decode cX9_halfOf 5 = .ok (.getfield 50, 3) := by decide +kernel
theorem dX9_halfOf_8 : decode cX9_halfOf 8 = .ok (.areturn, 1) := by decide +kernel
theorem dX9_halfOf_9 : decode cX9_halfOf 9 = .ok (.iload_n 1, 1) := by decide +kernel
theorem dX9_halfOf_10 : decode cX9_halfOf 10 = .ok (.iconst 1, 1) := by decide +kernel
theorem dX9_halfOf_11 : decode cX9_halfOf 11 = .ok (.if_icmp .ne 10, 3) := by decide +kernel
theorem dX9_halfOf_14 : decode cX9_halfOf 14 = .ok (.aload_n 0, 1) := by decide +kernel
theorem dX9_halfOf_15 : decode cX9_halfOf 15 = .ok (.getfield 53, 3) := by decide +kernel
theorem dX9_halfOf_18 : decode cX9_halfOf 18 = .ok (.goto 7, 3) := by decide +kernel
theorem dX9_halfOf_21 : decode cX9_halfOf 21 = .ok (.aload_n 0, 1) := by decide +kernel
theorem dX9_halfOf_22 : decode cX9_halfOf 22 = .ok (.getfield 56, 3) := by decide +kernel
theorem dX9_halfOf_25 : decode cX9_halfOf 25 = .ok (.areturn, 1) := by decide +kernel
theorem dX9_feet_0 : decode cX9_feet 0 = .ok (.iconst (-1), 1) := by decide +kernel
theorem dX9_feet_1 : decode cX9_feet 1 = .ok (.istore_n 3, 1) := by decide +kernel
theorem dX9_feet_2 : decode cX9_feet 2 = .ok (.iconst 0, 1) := by decide +kernel
theorem dX9_feet_3 : decode cX9_feet 3 = .ok (.istore 4, 2) := by decide +kernel
theorem dX9_feet_5 : decode cX9_feet 5 = .ok (.iload 4, 2) := by decide +kernel
theorem dX9_feet_7 : decode cX9_feet 7 = .ok (.aload_n 0, 1) := by decide +kernel
theorem dX9_feet_8 : decode cX9_feet 8 = .ok (.getfield 29, 3) := by decide +kernel
theorem dX9_feet_11 : decode cX9_feet 11 = .ok (.invokevirtual 69, 3) := by decide +kernel
theorem dX9_feet_14 : decode cX9_feet 14 = .ok (.if_icmp .ge 95, 3) := by decide +kernel
theorem dX9_feet_17 : decode cX9_feet 17 = .ok (.aload_n 0, 1) := by decide +kernel
theorem dX9_feet_18 : decode cX9_feet 18 = .ok (.getfield 29, 3) := by decide +kernel
theorem dX9_feet_21 : decode cX9_feet 21 = .ok (.iload 4, 2) := by decide +kernel
theorem dX9_feet_23 : decode cX9_feet 23 = .ok (.iconst 0, 1) := by decide +kernel
theorem dX9_feet_24 : decode cX9_feet 24 = .ok (.invokevirtual 73, 3) := by decide +kernel
theorem dX9_feet_27 : decode cX9_feet 27 = .ok (.istore 5, 2) := by decide +kernel
theorem dX9_feet_29 : decode cX9_feet 29 = .ok (.aload_n 0, 1) := by decide +kernel
theorem dX9_feet_30 : decode cX9_feet 30 = .ok (.getfield 29, 3) := by decide +kernel
theorem dX9_feet_33 : decode cX9_feet 33 = .ok (.iload 4, 2) := by decide +kernel
theorem dX9_feet_35 : decode cX9_feet 35 = .ok (.iconst 1, 1) := by decide +kernel
theorem dX9_feet_36 : decode cX9_feet 36 = .ok (.invokevirtual 73, 3) := by decide +kernel
theorem dX9_feet_39 : decode cX9_feet 39 = .ok (.istore 6, 2) := by decide +kernel
theorem dX9_feet_41 : decode cX9_feet 41 = .ok (.iload 5, 2) := by decide +kernel
theorem dX9_feet_43 : decode cX9_feet 43 = .ok (.iload_n 1, 1) := by decide +kernel
theorem dX9_feet_44 : decode cX9_feet 44 = .ok (.if_icmp .ne 9, 3) := by decide +kernel
theorem dX9_feet_47 : decode cX9_feet 47 = .ok (.iload 6, 2) := by decide +kernel
theorem dX9_feet_49 : decode cX9_feet 49 = .ok (.iload_n 2, 1) := by decide +kernel
theorem dX9_feet_50 : decode cX9_feet 50 = .ok (.if_icmp .eq 15, 3) := by decide +kernel
theorem dX9_feet_53 : decode cX9_feet 53 = .ok (.iload 5, 2) := by decide +kernel
theorem dX9_feet_55 : decode cX9_feet 55 = .ok (.iload_n 2, 1) := by decide +kernel
theorem dX9_feet_56 : decode cX9_feet 56 = .ok (.if_icmp .ne 13, 3) := by decide +kernel
theorem dX9_feet_59 : decode cX9_feet 59 = .ok (.iload 6, 2) := by decide +kernel
theorem dX9_feet_61 : decode cX9_feet 61 = .ok (.iload_n 1, 1) := by decide +kernel
theorem dX9_feet_62 : decode cX9_feet 62 = .ok (.if_icmp .ne 7, 3) := by decide +kernel
theorem dX9_feet_65 : decode cX9_feet 65 = .ok (.iconst 1, 1) := by decide +kernel
theorem dX9_feet_66 : decode cX9_feet 66 = .ok (.goto 4, 3) := by decide +kernel
theorem dX9_feet_69 : decode cX9_feet 69 = .ok (.iconst 0, 1) := by decide +kernel
theorem dX9_feet_70 : decode cX9_feet 70 = .ok (.istore 7, 2) := by decide +kernel
theorem dX9_feet_72 : decode cX9_feet 72 = .ok (.aload_n 0, 1) := by decide +kernel
theorem dX9_feet_73 : decode cX9_feet 73 = .ok (.getfield 29, 3) := by decide +kernel
theorem dX9_feet_76 : decode cX9_feet 76 = .ok (.iload 4, 2) := by decide +kernel
theorem dX9_feet_78 : decode cX9_feet 78 = .ok (.iconst 2, 1) := by decide +kernel
theorem dX9_feet_79 : decode cX9_feet 79 = .ok (.invokevirtual 73, 3) := by decide +kernel
theorem dX9_feet_82 : decode cX9_feet 82 = .ok (.istore 8, 2) := by decide +kernel
theorem dX9_feet_84 : decode cX9_feet 84 = .ok (.iload 7, 2) := by decide +kernel
theorem dX9_feet_86 : decode cX9_feet 86 = .ok (.ifCond .eq 17, 3) := by decide +kernel
theorem dX9_feet_89 : decode cX9_feet 89 = .ok (.iload_n 3, 1) := by decide +kernel
theorem dX9_feet_90 : decode cX9_feet 90 = .ok (.iconst (-1), 1) := by decide +kernel
theorem dX9_feet_91 : decode cX9_feet 91 = .ok (.if_icmp .eq 9, 3) := by decide +kernel
theorem dX9_feet_94 : decode cX9_feet 94 = .ok (.iload 8, 2) := by decide +kernel
theorem dX9_feet_96 : decode cX9_feet 96 = .ok (.iload_n 3, 1) := by decide +kernel
theorem dX9_feet_97 : decode cX9_feet 97 = .ok (.if_icmp .ge 6, 3) := by decide +kernel
theorem dX9_feet_100 : decode cX9_feet 100 = .ok (.iload 8, 2) := by decide +kernel
theorem dX9_feet_102 : decode cX9_feet 102 = .ok (.istore_n 3, 1) := by decide +kernel
theorem dX9_feet_103 : decode cX9_feet 103 = .ok (.iinc 4 1, 3) := by decide +kernel
theorem dX9_feet_106 : decode cX9_feet 106 = .ok (.goto (-101), 3) := by decide +kernel
theorem dX9_feet_109 : decode cX9_feet 109 = .ok (.iload_n 3, 1) := by decide +kernel
theorem dX9_feet_110 : decode cX9_feet 110 = .ok (.ireturn, 1) := by decide +kernel
theorem dX9_copyFrom_0 : decode cX9_copyFrom 0 = .ok (.aload_n 0, 1) := by decide +kernel
theorem dX9_copyFrom_1 : decode cX9_copyFrom 1 = .ok (.getfield 14, 3) := by decide +kernel
theorem dX9_copyFrom_4 : decode cX9_copyFrom 4 = .ok (.aload_n 1, 1) := by decide +kernel
theorem dX9_copyFrom_5 : decode cX9_copyFrom 5 = .ok (.getfield 14, 3) := by decide +kernel
theorem dX9_copyFrom_8 : decode cX9_copyFrom 8 = .ok (.invokevirtual 77, 3) := by decide +kernel
theorem dX9_copyFrom_11 : decode cX9_copyFrom 11 = .ok (.aload_n 0, 1) := by decide +kernel
theorem dX9_copyFrom_12 : decode cX9_copyFrom 12 = .ok (.getfield 20, 3) := by decide +kernel
theorem dX9_copyFrom_15 : decode cX9_copyFrom 15 = .ok (.aload_n 1, 1) := by decide +kernel
theorem dX9_copyFrom_16 : decode cX9_copyFrom 16 = .ok (.getfield 20, 3) := by decide +kernel
theorem dX9_copyFrom_19 : decode cX9_copyFrom 19 = .ok (.invokevirtual 77, 3) := by decide +kernel
theorem dX9_copyFrom_22 : decode cX9_copyFrom 22 = .ok (.aload_n 0, 1) := by decide +kernel
theorem dX9_copyFrom_23 : decode cX9_copyFrom 23 = .ok (.getfield 23, 3) := by decide +kernel
theorem dX9_copyFrom_26 : decode cX9_copyFrom 26 = .ok (.aload_n 1, 1) := by decide +kernel
theorem dX9_copyFrom_27 : decode cX9_copyFrom 27 = .ok (.getfield 23, 3) := by decide +kernel
theorem dX9_copyFrom_30 : decode cX9_copyFrom 30 = .ok (.invokevirtual 77, 3) := by decide +kernel
theorem dX9_copyFrom_33 : decode cX9_copyFrom 33 = .ok (.aload_n 0, 1) := by decide +kernel
theorem dX9_copyFrom_34 : decode cX9_copyFrom 34 = .ok (.getfield 26, 3) := by decide +kernel
theorem dX9_copyFrom_37 : decode cX9_copyFrom 37 = .ok (.aload_n 1, 1) := by decide +kernel
theorem dX9_copyFrom_38 : decode cX9_copyFrom 38 = .ok (.getfield 26, 3) := by decide +kernel
theorem dX9_copyFrom_41 : decode cX9_copyFrom 41 = .ok (.invokevirtual 77, 3) := by decide +kernel
theorem dX9_copyFrom_44 : decode cX9_copyFrom 44 = .ok (.aload_n 0, 1) := by decide +kernel
theorem dX9_copyFrom_45 : decode cX9_copyFrom 45 = .ok (.getfield 29, 3) := by decide +kernel
theorem dX9_copyFrom_48 : decode cX9_copyFrom 48 = .ok (.aload_n 1, 1) := by decide +kernel
theorem dX9_copyFrom_49 : decode cX9_copyFrom 49 = .ok (.getfield 29, 3) := by decide +kernel
theorem dX9_copyFrom_52 : decode cX9_copyFrom 52 = .ok (.invokevirtual 77, 3) := by decide +kernel
theorem dX9_copyFrom_55 : decode cX9_copyFrom 55 = .ok (.aload_n 0, 1) := by decide +kernel
theorem dX9_copyFrom_56 : decode cX9_copyFrom 56 = .ok (.getfield 32, 3) := by decide +kernel
theorem dX9_copyFrom_59 : decode cX9_copyFrom 59 = .ok (.aload_n 1, 1) := by decide +kernel
theorem dX9_copyFrom_60 : decode cX9_copyFrom 60 = .ok (.getfield 32, 3) := by decide +kernel
theorem dX9_copyFrom_63 : decode cX9_copyFrom 63 = .ok (.invokevirtual 77, 3) := by decide +kernel
theorem dX9_copyFrom_66 : decode cX9_copyFrom 66 = .ok (.aload_n 0, 1) := by decide +kernel
theorem dX9_copyFrom_67 : decode cX9_copyFrom 67 = .ok (.getfield 35, 3) := by decide +kernel
theorem dX9_copyFrom_70 : decode cX9_copyFrom 70 = .ok (.aload_n 1, 1) := by decide +kernel
theorem dX9_copyFrom_71 : decode cX9_copyFrom 71 = .ok (.getfield 35, 3) := by decide +kernel
theorem dX9_copyFrom_74 : decode cX9_copyFrom 74 = .ok (.invokevirtual 77, 3) := by decide +kernel
theorem dX9_copyFrom_77 : decode cX9_copyFrom 77 = .ok (.aload_n 0, 1) := by decide +kernel
theorem dX9_copyFrom_78 : decode cX9_copyFrom 78 = .ok (.getfield 38, 3) := by decide +kernel
theorem dX9_copyFrom_81 : decode cX9_copyFrom 81 = .ok (.aload_n 1, 1) := by decide +kernel
theorem dX9_copyFrom_82 : decode cX9_copyFrom 82 = .ok (.getfield 38, 3) := by decide +kernel
theorem dX9_copyFrom_85 : decode cX9_copyFrom 85 = .ok (.invokevirtual 77, 3) := by decide +kernel
theorem dX9_copyFrom_88 : decode cX9_copyFrom 88 = .ok (.aload_n 0, 1) := by decide +kernel
theorem dX9_copyFrom_89 : decode cX9_copyFrom 89 = .ok (.getfield 41, 3) := by decide +kernel
theorem dX9_copyFrom_92 : decode cX9_copyFrom 92 = .ok (.aload_n 1, 1) := by decide +kernel
theorem dX9_copyFrom_93 : decode cX9_copyFrom 93 = .ok (.getfield 41, 3) := by decide +kernel
theorem dX9_copyFrom_96 : decode cX9_copyFrom 96 = .ok (.invokevirtual 77, 3) := by decide +kernel
theorem dX9_copyFrom_99 : decode cX9_copyFrom 99 = .ok (.aload_n 0, 1) := by decide +kernel
theorem dX9_copyFrom_100 : decode cX9_copyFrom 100 = .ok (.getfield 44, 3) := by decide +kernel
theorem dX9_copyFrom_103 : decode cX9_copyFrom 103 = .ok (.aload_n 1, 1) := by decide +kernel
theorem dX9_copyFrom_104 : decode cX9_copyFrom 104 = .ok (.getfield 44, 3) := by decide +kernel
theorem dX9_copyFrom_107 : decode cX9_copyFrom 107 = .ok (.invokevirtual 77, 3) := by decide +kernel
theorem dX9_copyFrom_110 : decode cX9_copyFrom 110 = .ok (.aload_n 0, 1) := by decide +kernel
theorem dX9_copyFrom_111 : decode cX9_copyFrom 111 = .ok (.getfield 47, 3) := by decide +kernel
theorem dX9_copyFrom_114 : decode cX9_copyFrom 114 = .ok (.aload_n 1, 1) := by decide +kernel
theorem dX9_copyFrom_115 : decode cX9_copyFrom 115 = .ok (.getfield 47, 3) := by decide +kernel
theorem dX9_copyFrom_118 : decode cX9_copyFrom 118 = .ok (.invokevirtual 77, 3) := by decide +kernel
theorem dX9_copyFrom_121 : decode cX9_copyFrom 121 = .ok (.aload_n 0, 1) := by decide +kernel
theorem dX9_copyFrom_122 : decode cX9_copyFrom 122 = .ok (.getfield 50, 3) := by decide +kernel
theorem dX9_copyFrom_125 : decode cX9_copyFrom 125 = .ok (.aload_n 1, 1) := by decide +kernel
theorem dX9_copyFrom_126 : decode cX9_copyFrom 126 = .ok (.getfield 50, 3) := by decide +kernel
theorem dX9_copyFrom_129 : decode cX9_copyFrom 129 = .ok (.invokevirtual 77, 3) := by decide +kernel
theorem dX9_copyFrom_132 : decode cX9_copyFrom 132 = .ok (.aload_n 0, 1) := by decide +kernel
theorem dX9_copyFrom_133 : decode cX9_copyFrom 133 = .ok (.getfield 53, 3) := by decide +kernel
theorem dX9_copyFrom_136 : decode cX9_copyFrom 136 = .ok (.aload_n 1, 1) := by decide +kernel
theorem dX9_copyFrom_137 : decode cX9_copyFrom 137 = .ok (.getfield 53, 3) := by decide +kernel
theorem dX9_copyFrom_140 : decode cX9_copyFrom 140 = .ok (.invokevirtual 77, 3) := by decide +kernel
theorem dX9_copyFrom_143 : decode cX9_copyFrom 143 = .ok (.aload_n 0, 1) := by decide +kernel
theorem dX9_copyFrom_144 : decode cX9_copyFrom 144 = .ok (.getfield 56, 3) := by decide +kernel
theorem dX9_copyFrom_147 : decode cX9_copyFrom 147 = .ok (.aload_n 1, 1) := by decide +kernel
theorem dX9_copyFrom_148 : decode cX9_copyFrom 148 = .ok (.getfield 56, 3) := by decide +kernel
theorem dX9_copyFrom_151 : decode cX9_copyFrom 151 = .ok (.invokevirtual 77, 3) := by decide +kernel
theorem dX9_copyFrom_154 : decode cX9_copyFrom 154 = .ok (.aload_n 0, 1) := by decide +kernel
theorem dX9_copyFrom_155 : decode cX9_copyFrom 155 = .ok (.getfield 59, 3) := by decide +kernel
theorem dX9_copyFrom_158 : decode cX9_copyFrom 158 = .ok (.aload_n 1, 1) := by decide +kernel
theorem dX9_copyFrom_159 : decode cX9_copyFrom 159 = .ok (.getfield 59, 3) := by decide +kernel
theorem dX9_copyFrom_162 : decode cX9_copyFrom 162 = .ok (.invokevirtual 77, 3) := by decide +kernel
theorem dX9_copyFrom_165 : decode cX9_copyFrom 165 = .ok (.aload_n 0, 1) := by decide +kernel
theorem dX9_copyFrom_166 : decode cX9_copyFrom 166 = .ok (.getfield 62, 3) := by decide +kernel
theorem dX9_copyFrom_169 : decode cX9_copyFrom 169 = .ok (.aload_n 1, 1) := by decide +kernel
theorem dX9_copyFrom_170 : decode cX9_copyFrom 170 = .ok (.getfield 62, 3) := by decide +kernel
theorem dX9_copyFrom_173 : decode cX9_copyFrom 173 = .ok (.invokevirtual 77, 3) := by decide +kernel
theorem dX9_copyFrom_176 : decode cX9_copyFrom 176 = .ok (.return_, 1) := by decide +kernel
theorem dX10_init_0 : decode cX10_init 0 = .ok (.aload_n 0, 1) := by decide +kernel
theorem dX10_init_1 : decode cX10_init 1 = .ok (.invokespecial 3, 3) := by decide +kernel
theorem dX10_init_4 : decode cX10_init 4 = .ok (.aload_n 0, 1) := by decide +kernel
theorem dX10_init_5 : decode cX10_init 5 = .ok (.bipush 6, 2) := by decide +kernel
theorem dX10_init_7 : decode cX10_init 7 = .ok (.anewarray 11, 3) := by decide +kernel
theorem dX10_init_10 : decode cX10_init 10 = .ok (.putfield 13, 3) := by decide +kernel
theorem dX10_init_13 : decode cX10_init 13 = .ok (.aload_n 0, 1) := by decide +kernel
theorem dX10_init_14 : decode cX10_init 14 = .ok (.bipush 6, 2) := by decide +kernel
theorem dX10_init_16 : decode cX10_init 16 = .ok (.newarray .int, 2) := by decide +kernel
theorem dX10_init_18 : decode cX10_init 18 = .ok (.putfield 17, 3) := by decide +kernel
theorem dX10_init_21 : decode cX10_init 21 = .ok (.aload_n 0, 1) := by decide +kernel
theorem dX10_init_22 : decode cX10_init 22 = .ok (.iconst 0, 1) := by decide +kernel
theorem dX10_init_23 : decode cX10_init 23 = .ok (.putfield 21, 3) := by decide +kernel
theorem dX10_init_26 : decode cX10_init 26 = .ok (.aload_n 0, 1) := by decide +kernel
theorem dX10_init_27 : decode cX10_init 27 = .ok (.iconst 0, 1) := by decide +kernel
theorem dX10_init_28 : decode cX10_init 28 = .ok (.putfield 25, 3) := by decide +kernel
theorem dX10_init_31 : decode cX10_init 31 = .ok (.iconst 0, 1) := by decide +kernel
theorem dX10_init_32 : decode cX10_init 32 = .ok (.istore_n 1, 1) := by decide +kernel
theorem dX10_init_33 : decode cX10_init 33 = .ok (.iload_n 1, 1) := by decide +kernel
theorem dX10_init_34 : decode cX10_init 34 = .ok (.bipush 6, 2) := by decide +kernel
theorem dX10_init_36 : decode cX10_init 36 = .ok (.if_icmp .ge 22, 3) := by decide +kernel
theorem dX10_init_39 : decode cX10_init 39 = .ok (.aload_n 0, 1) := by decide +kernel
theorem dX10_init_40 : decode cX10_init 40 = .ok (.getfield 13, 3) := by decide +kernel
theorem dX10_init_43 : decode cX10_init 43 = .ok (.iload_n 1, 1) := by decide +kernel
theorem dX10_init_44 : decode cX10_init 44 = .ok (.new 11, 3) := by decide +kernel
theorem dX10_init_47 : decode cX10_init 47 = .ok (.dup, 1) := by decide +kernel
theorem dX10_init_48 : decode cX10_init 48 = .ok (.invokespecial 28, 3) := by decide +kernel
theorem dX10_init_51 : decode cX10_init 51 = .ok (.aastore, 1) := by decide +kernel
theorem dX10_init_52 : decode cX10_init 52 = .ok (.iinc 1 1, 3) := by decide +kernel
theorem dX10_init_55 : decode cX10_init 55 = .ok (.goto (-22), 3) := by decide +kernel
theorem dX10_init_58 : decode cX10_init 58 = .ok (.return_, 1) := by decide +kernel
theorem dX10_size_0 : decode cX10_size 0 = .ok (.aload_n 0, 1) := by decide +kernel
theorem dX10_size_1 : decode cX10_size 1 = .ok (.getfield 21, 3) := by decide +kernel
theorem dX10_size_4 : decode cX10_size 4 = .ok (.ireturn, 1) := by decide +kernel
theorem dX10_keep_0 : decode cX10_keep 0 = .ok (.aload_n 0, 1) := by decide +kernel
theorem dX10_keep_1 : decode cX10_keep 1 = .ok (.getfield 13, 3) := by decide +kernel
theorem dX10_keep_4 : decode cX10_keep 4 = .ok (.aload_n 0, 1) := by decide +kernel
theorem dX10_keep_5 : decode cX10_keep 5 = .ok (.getfield 25, 3) := by decide +kernel
theorem dX10_keep_8 : decode cX10_keep 8 = .ok (.aaload, 1) := by decide +kernel
theorem dX10_keep_9 : decode cX10_keep 9 = .ok (.aload_n 1, 1) := by decide +kernel
theorem dX10_keep_10 : decode cX10_keep 10 = .ok (.invokevirtual 29, 3) := by decide +kernel
theorem dX10_keep_13 : decode cX10_keep 13 = .ok (.aload_n 0, 1) := by decide +kernel
theorem dX10_keep_14 : decode cX10_keep 14 = .ok (.getfield 17, 3) := by decide +kernel
theorem dX10_keep_17 : decode cX10_keep 17 = .ok (.aload_n 0, 1) := by decide +kernel
theorem dX10_keep_18 : decode cX10_keep 18 = .ok (.getfield 25, 3) := by decide +kernel
theorem dX10_keep_21 : decode cX10_keep 21 = .ok (.iload_n 2, 1) := by decide +kernel
theorem dX10_keep_22 : decode cX10_keep 22 = .ok (.iastore, 1) := by decide +kernel
theorem dX10_keep_23 : decode cX10_keep 23 = .ok (.aload_n 0, 1) := by decide +kernel
theorem dX10_keep_24 : decode cX10_keep 24 = .ok (.aload_n 0, 1) := by decide +kernel
theorem dX10_keep_25 : decode cX10_keep 25 = .ok (.getfield 25, 3) := by decide +kernel
theorem dX10_keep_28 : decode cX10_keep 28 = .ok (.iconst 1, 1) := by decide +kernel
theorem dX10_keep_29 : decode cX10_keep 29 = .ok (.iadd, 1) := by decide +kernel
theorem dX10_keep_30 : decode cX10_keep 30 = .ok (.bipush 6, 2) := by decide +kernel
theorem dX10_keep_32 : decode cX10_keep 32 = .ok (.irem, 1) := by decide +kernel
theorem dX10_keep_33 : decode cX10_keep 33 = .ok (.putfield 25, 3) := by decide +kernel
theorem dX10_keep_36 : decode cX10_keep 36 = .ok (.aload_n 0, 1) := by decide +kernel
theorem dX10_keep_37 : decode cX10_keep 37 = .ok (.getfield 21, 3) := by decide +kernel
theorem dX10_keep_40 : decode cX10_keep 40 = .ok (.bipush 6, 2) := by decide +kernel
theorem dX10_keep_42 : decode cX10_keep 42 = .ok (.if_icmp .ge 13, 3) := by decide +kernel
theorem dX10_keep_45 : decode cX10_keep 45 = .ok (.aload_n 0, 1) := by decide +kernel
theorem dX10_keep_46 : decode cX10_keep 46 = .ok (.dup, 1) := by decide +kernel
theorem dX10_keep_47 : decode cX10_keep 47 = .ok (.getfield 21, 3) := by decide +kernel
theorem dX10_keep_50 : decode cX10_keep 50 = .ok (.iconst 1, 1) := by decide +kernel
theorem dX10_keep_51 : decode cX10_keep 51 = .ok (.iadd, 1) := by decide +kernel
theorem dX10_keep_52 : decode cX10_keep 52 = .ok (.putfield 21, 3) := by decide +kernel
theorem dX10_keep_55 : decode cX10_keep 55 = .ok (.return_, 1) := by decide +kernel
theorem dX10_forget_0 : decode cX10_forget 0 = .ok (.aload_n 0, 1) := by decide +kernel
theorem dX10_forget_1 : decode cX10_forget 1 = .ok (.iconst 0, 1) := by decide +kernel
theorem dX10_forget_2 : decode cX10_forget 2 = .ok (.putfield 21, 3) := by decide +kernel
theorem dX10_forget_5 : decode cX10_forget 5 = .ok (.return_, 1) := by decide +kernel
theorem dX10_goBack_0 : decode cX10_goBack 0 = .ok (.aload_n 0, 1) := by decide +kernel
theorem dX10_goBack_1 : decode cX10_goBack 1 = .ok (.getfield 21, 3) := by decide +kernel
theorem dX10_goBack_4 : decode cX10_goBack 4 = .ok (.ifCond .ne 5, 3) := by decide +kernel
theorem dX10_goBack_7 : decode cX10_goBack 7 = .ok (.iconst (-1), 1) := by decide +kernel
theorem dX10_goBack_8 : decode cX10_goBack 8 = .ok (.ireturn, 1) := by decide +kernel
theorem dX10_goBack_9 : decode cX10_goBack 9 = .ok (.aload_n 0, 1) := by decide +kernel
theorem dX10_goBack_10 : decode cX10_goBack 10 = .ok (.dup, 1) := by decide +kernel
theorem dX10_goBack_11 : decode cX10_goBack 11 = .ok (.getfield 21, 3) := by decide +kernel
theorem dX10_goBack_14 : decode cX10_goBack 14 = .ok (.iconst 1, 1) := by decide +kernel
theorem dX10_goBack_15 : decode cX10_goBack 15 = .ok (.isub, 1) := by decide +kernel
theorem dX10_goBack_16 : decode cX10_goBack 16 = .ok (.putfield 21, 3) := by decide +kernel
theorem dX10_goBack_19 : decode cX10_goBack 19 = .ok (.aload_n 0, 1) := by decide +kernel
theorem dX10_goBack_20 : decode cX10_goBack 20 = .ok (.aload_n 0, 1) := by decide +kernel
theorem dX10_goBack_21 : decode cX10_goBack 21 = .ok (.getfield 25, 3) := by decide +kernel
theorem dX10_goBack_24 : decode cX10_goBack 24 = .ok (.bipush 6, 2) := by decide +kernel
theorem dX10_goBack_26 : decode cX10_goBack 26 = .ok (.iadd, 1) := by decide +kernel
theorem dX10_goBack_27 : decode cX10_goBack 27 = .ok (.iconst 1, 1) := by decide +kernel
theorem dX10_goBack_28 : decode cX10_goBack 28 = .ok (.isub, 1) := by decide +kernel
theorem dX10_goBack_29 : decode cX10_goBack 29 = .ok (.bipush 6, 2) := by decide +kernel
theorem dX10_goBack_31 : decode cX10_goBack 31 = .ok (.irem, 1) := by decide +kernel
theorem dX10_goBack_32 : decode cX10_goBack 32 = .ok (.putfield 25, 3) := by decide +kernel
theorem dX10_goBack_35 : decode cX10_goBack 35 = .ok (.aload_n 1, 1) := by decide +kernel
theorem dX10_goBack_36 : decode cX10_goBack 36 = .ok (.aload_n 0, 1) := by decide +kernel
theorem dX10_goBack_37 : decode cX10_goBack 37 = .ok (.getfield 13, 3) := by decide +kernel
theorem dX10_goBack_40 : decode cX10_goBack 40 = .ok (.aload_n 0, 1) := by decide +kernel
theorem dX10_goBack_41 : decode cX10_goBack 41 = .ok (.getfield 25, 3) := by decide +kernel
theorem dX10_goBack_44 : decode cX10_goBack 44 = .ok (.aaload, 1) := by decide +kernel
theorem dX10_goBack_45 : decode cX10_goBack 45 = .ok (.invokevirtual 29, 3) := by decide +kernel
theorem dX10_goBack_48 : decode cX10_goBack 48 = .ok (.aload_n 0, 1) := by decide +kernel
theorem dX10_goBack_49 : decode cX10_goBack 49 = .ok (.getfield 17, 3) := by decide +kernel
theorem dX10_goBack_52 : decode cX10_goBack 52 = .ok (.aload_n 0, 1) := by decide +kernel
theorem dX10_goBack_53 : decode cX10_goBack 53 = .ok (.getfield 25, 3) := by decide +kernel
theorem dX10_goBack_56 : decode cX10_goBack 56 = .ok (.iaload, 1) := by decide +kernel
theorem dX10_goBack_57 : decode cX10_goBack 57 = .ok (.ireturn, 1) := by decide +kernel
theorem dX11_init_0 : decode cX11_init 0 = .ok (.aload_n 0, 1) := by decide +kernel
theorem dX11_init_1 : decode cX11_init 1 = .ok (.invokespecial 3, 3) := by decide +kernel
theorem dX11_init_4 : decode cX11_init 4 = .ok (.aload_n 0, 1) := by decide +kernel
theorem dX11_init_5 : decode cX11_init 5 = .ok (.new 9, 3) := by decide +kernel
theorem dX11_init_8 : decode cX11_init 8 = .ok (.dup, 1) := by decide +kernel
theorem dX11_init_9 : decode cX11_init 9 = .ok (.invokespecial 11, 3) := by decide +kernel
theorem dX11_init_12 : decode cX11_init 12 = .ok (.putfield 12, 3) := by decide +kernel
theorem dX11_init_15 : decode cX11_init 15 = .ok (.aload_n 0, 1) := by decide +kernel
theorem dX11_init_16 : decode cX11_init 16 = .ok (.new 16, 3) := by decide +kernel
theorem dX11_init_19 : decode cX11_init 19 = .ok (.dup, 1) := by decide +kernel
theorem dX11_init_20 : decode cX11_init 20 = .ok (.invokespecial 18, 3) := by decide +kernel
theorem dX11_init_23 : decode cX11_init 23 = .ok (.putfield 19, 3) := by decide +kernel
theorem dX11_init_26 : decode cX11_init 26 = .ok (.aload_n 0, 1) := by decide +kernel
theorem dX11_init_27 : decode cX11_init 27 = .ok (.new 23, 3) := by decide +kernel
theorem dX11_init_30 : decode cX11_init 30 = .ok (.dup, 1) := by decide +kernel
theorem dX11_init_31 : decode cX11_init 31 = .ok (.invokespecial 25, 3) := by decide +kernel
theorem dX11_init_34 : decode cX11_init 34 = .ok (.putfield 26, 3) := by decide +kernel
theorem dX11_init_37 : decode cX11_init 37 = .ok (.aload_n 0, 1) := by decide +kernel
theorem dX11_init_38 : decode cX11_init 38 = .ok (.new 30, 3) := by decide +kernel
theorem dX11_init_41 : decode cX11_init 41 = .ok (.dup, 1) := by decide +kernel
theorem dX11_init_42 : decode cX11_init 42 = .ok (.iconst 5, 1) := by decide +kernel
theorem dX11_init_43 : decode cX11_init 43 = .ok (.sipush 150, 3) := by decide +kernel
theorem dX11_init_46 : decode cX11_init 46 = .ok (.invokespecial 32, 3) := by decide +kernel
theorem dX11_init_49 : decode cX11_init 49 = .ok (.putfield 35, 3) := by decide +kernel
theorem dX11_init_52 : decode cX11_init 52 = .ok (.aload_n 0, 1) := by decide +kernel
theorem dX11_init_53 : decode cX11_init 53 = .ok (.new 39, 3) := by decide +kernel
theorem dX11_init_56 : decode cX11_init 56 = .ok (.dup, 1) := by decide +kernel
theorem dX11_init_57 : decode cX11_init 57 = .ok (.invokespecial 41, 3) := by decide +kernel
theorem dX11_init_60 : decode cX11_init 60 = .ok (.putfield 42, 3) := by decide +kernel
theorem dX11_init_63 : decode cX11_init 63 = .ok (.aload_n 0, 1) := by decide +kernel
theorem dX11_init_64 : decode cX11_init 64 = .ok (.new 46, 3) := by decide +kernel
theorem dX11_init_67 : decode cX11_init 67 = .ok (.dup, 1) := by decide +kernel
theorem dX11_init_68 : decode cX11_init 68 = .ok (.aload_n 0, 1) := by decide +kernel
theorem dX11_init_69 : decode cX11_init 69 = .ok (.getfield 12, 3) := by decide +kernel
theorem dX11_init_72 : decode cX11_init 72 = .ok (.aload_n 0, 1) := by decide +kernel
theorem dX11_init_73 : decode cX11_init 73 = .ok (.getfield 19, 3) := by decide +kernel
theorem dX11_init_76 : decode cX11_init 76 = .ok (.invokespecial 48, 3) := by decide +kernel
theorem dX11_init_79 : decode cX11_init 79 = .ok (.putfield 51, 3) := by decide +kernel
theorem dX11_init_82 : decode cX11_init 82 = .ok (.aload_n 0, 1) := by decide +kernel
theorem dX11_init_83 : decode cX11_init 83 = .ok (.new 55, 3) := by decide +kernel
theorem dX11_init_86 : decode cX11_init 86 = .ok (.dup, 1) := by decide +kernel
theorem dX11_init_87 : decode cX11_init 87 = .ok (.aload_n 0, 1) := by decide +kernel
theorem dX11_init_88 : decode cX11_init 88 = .ok (.getfield 19, 3) := by decide +kernel
theorem dX11_init_91 : decode cX11_init 91 = .ok (.aload_n 0, 1) := by decide +kernel
theorem dX11_init_92 : decode cX11_init 92 = .ok (.getfield 26, 3) := by decide +kernel
theorem dX11_init_95 : decode cX11_init 95 = .ok (.invokespecial 57, 3) := by decide +kernel
theorem dX11_init_98 : decode cX11_init 98 = .ok (.putfield 60, 3) := by decide +kernel
theorem dX11_init_101 : decode cX11_init 101 = .ok (.aload_n 0, 1) := by decide +kernel
theorem dX11_init_102 : decode cX11_init 102 = .ok (.new 64, 3) := by decide +kernel
theorem dX11_init_105 : decode cX11_init 105 = .ok (.dup, 1) := by decide +kernel
theorem dX11_init_106 : decode cX11_init 106 = .ok (.aload_n 0, 1) := by decide +kernel
theorem dX11_init_107 : decode cX11_init 107 = .ok (.getfield 19, 3) := by decide +kernel
theorem dX11_init_110 : decode cX11_init 110 = .ok (.aload_n 0, 1) := by decide +kernel
theorem dX11_init_111 : decode cX11_init 111 = .ok (.getfield 26, 3) := by decide +kernel
theorem dX11_init_114 : decode cX11_init 114 = .ok (.aload_n 0, 1) := by decide +kernel
theorem dX11_init_115 : decode cX11_init 115 = .ok (.getfield 60, 3) := by decide +kernel
theorem dX11_init_118 : decode cX11_init 118 = .ok (.aload_n 0, 1) := by decide +kernel
theorem dX11_init_119 : decode cX11_init 119 = .ok (.getfield 35, 3) := by decide +kernel
theorem dX11_init_122 : decode cX11_init 122 = .ok (.invokespecial 66, 3) := by decide +kernel
theorem dX11_init_125 : decode cX11_init 125 = .ok (.putfield 69, 3) := by decide +kernel
theorem dX11_init_128 : decode cX11_init 128 = .ok (.aload_n 0, 1) := by decide +kernel
theorem dX11_init_129 : decode cX11_init 129 = .ok (.new 73, 3) := by decide +kernel
theorem dX11_init_132 : decode cX11_init 132 = .ok (.dup, 1) := by decide +kernel
theorem dX11_init_133 : decode cX11_init 133 = .ok (.aload_n 0, 1) := by decide +kernel
theorem dX11_init_134 : decode cX11_init 134 = .ok (.getfield 26, 3) := by decide +kernel
theorem dX11_init_137 : decode cX11_init 137 = .ok (.getfield 75, 3) := by decide +kernel
theorem dX11_init_140 : decode cX11_init 140 = .ok (.invokespecial 78, 3) := by decide +kernel
theorem dX11_init_143 : decode cX11_init 143 = .ok (.putfield 81, 3) := by decide +kernel
theorem dX11_init_146 : decode cX11_init 146 = .ok (.aload_n 0, 1) := by decide +kernel
theorem dX11_init_147 : decode cX11_init 147 = .ok (.new 85, 3) := by decide +kernel
theorem dX11_init_150 : decode cX11_init 150 = .ok (.dup, 1) := by decide +kernel
theorem dX11_init_151 : decode cX11_init 151 = .ok (.aload_n 0, 1) := by decide +kernel
theorem dX11_init_152 : decode cX11_init 152 = .ok (.getfield 26, 3) := by decide +kernel
theorem dX11_init_155 : decode cX11_init 155 = .ok (.invokespecial 87, 3) := by decide +kernel
theorem dX11_init_158 : decode cX11_init 158 = .ok (.putfield 90, 3) := by decide +kernel
theorem dX11_init_161 : decode cX11_init 161 = .ok (.aload_n 0, 1) := by decide +kernel
theorem dX11_init_162 : decode cX11_init 162 = .ok (.new 16, 3) := by decide +kernel
theorem dX11_init_165 : decode cX11_init 165 = .ok (.dup, 1) := by decide +kernel
theorem dX11_init_166 : decode cX11_init 166 = .ok (.invokespecial 18, 3) := by decide +kernel
theorem dX11_init_169 : decode cX11_init 169 = .ok (.putfield 94, 3) := by decide +kernel
theorem dX11_init_172 : decode cX11_init 172 = .ok (.aload_n 0, 1) := by decide +kernel
theorem dX11_init_173 : decode cX11_init 173 = .ok (.new 16, 3) := by decide +kernel
theorem dX11_init_176 : decode cX11_init 176 = .ok (.dup, 1) := by decide +kernel
theorem dX11_init_177 : decode cX11_init 177 = .ok (.invokespecial 18, 3) := by decide +kernel
theorem dX11_init_180 : decode cX11_init 180 = .ok (.putfield 97, 3) := by decide +kernel
theorem dX11_init_183 : decode cX11_init 183 = .ok (.aload_n 0, 1) := by decide +kernel
theorem dX11_init_184 : decode cX11_init 184 = .ok (.new 23, 3) := by decide +kernel
theorem dX11_init_187 : decode cX11_init 187 = .ok (.dup, 1) := by decide +kernel
theorem dX11_init_188 : decode cX11_init 188 = .ok (.invokespecial 25, 3) := by decide +kernel
theorem dX11_init_191 : decode cX11_init 191 = .ok (.putfield 100, 3) := by decide +kernel
theorem dX11_init_194 : decode cX11_init 194 = .ok (.aload_n 0, 1) := by decide +kernel
theorem dX11_init_195 : decode cX11_init 195 = .ok (.new 30, 3) := by decide +kernel
theorem dX11_init_198 : decode cX11_init 198 = .ok (.dup, 1) := by decide +kernel
theorem dX11_init_199 : decode cX11_init 199 = .ok (.iconst 5, 1) := by decide +kernel
theorem dX11_init_200 : decode cX11_init 200 = .ok (.sipush 150, 3) := by decide +kernel
theorem dX11_init_203 : decode cX11_init 203 = .ok (.invokespecial 32, 3) := by decide +kernel
theorem dX11_init_206 : decode cX11_init 206 = .ok (.putfield 103, 3) := by decide +kernel
theorem dX11_init_209 : decode cX11_init 209 = .ok (.aload_n 0, 1) := by decide +kernel
theorem dX11_init_210 : decode cX11_init 210 = .ok (.iconst 0, 1) := by decide +kernel
theorem dX11_init_211 : decode cX11_init 211 = .ok (.putfield 106, 3) := by decide +kernel
theorem dX11_init_214 : decode cX11_init 214 = .ok (.return_, 1) := by decide +kernel
theorem dX11_state_0 : decode cX11_state 0 = .ok (.aload_n 0, 1) := by decide +kernel
theorem dX11_state_1 : decode cX11_state 1 = .ok (.getfield 19, 3) := by decide +kernel
theorem dX11_state_4 : decode cX11_state 4 = .ok (.getfield 110, 3) := by decide +kernel
theorem dX11_state_7 : decode cX11_state 7 = .ok (.istore_n 2, 1) := by decide +kernel
theorem dX11_state_8 : decode cX11_state 8 = .ok (.aload_n 0, 1) := by decide +kernel
theorem dX11_state_9 : decode cX11_state 9 = .ok (.getfield 19, 3) := by decide +kernel
theorem dX11_state_12 : decode cX11_state 12 = .ok (.iload_n 1, 1) := by decide +kernel
theorem dX11_state_13 : decode cX11_state 13 = .ok (.putfield 110, 3) := by decide +kernel
theorem dX11_state_16 : decode cX11_state 16 = .ok (.aload_n 0, 1) := by decide +kernel
theorem dX11_state_17 : decode cX11_state 17 = .ok (.getfield 42, 3) := by decide +kernel
theorem dX11_state_20 : decode cX11_state 20 = .ok (.invokevirtual 114, 3) := by decide +kernel
theorem dX11_state_23 : decode cX11_state 23 = .ok (.iload_n 2, 1) := by decide +kernel
theorem dX11_state_24 : decode cX11_state 24 = .ok (.ireturn, 1) := by decide +kernel
theorem dX11_porch_0 : decode cX11_porch 0 = .ok (.iload_n 1, 1) := by decide +kernel
theorem dX11_porch_1 : decode cX11_porch 1 = .ok (.iconst 1, 1) := by decide +kernel
theorem dX11_porch_2 : decode cX11_porch 2 = .ok (.bipush 6, 2) := by decide +kernel
theorem dX11_porch_4 : decode cX11_porch 4 = .ok (.invokestatic 117, 3) := by decide +kernel
theorem dX11_porch_7 : decode cX11_porch 7 = .ok (.ifCond .eq 13, 3) := by decide +kernel
theorem dX11_porch_10 : decode cX11_porch 10 = .ok (.iload_n 2, 1) := by decide +kernel
theorem dX11_porch_11 : decode cX11_porch 11 = .ok (.iconst 0, 1) := by decide +kernel
theorem dX11_porch_12 : decode cX11_porch 12 = .ok (.bipush 99, 2) := by decide +kernel
theorem dX11_porch_14 : decode cX11_porch 14 = .ok (.invokestatic 117, 3) := by decide +kernel
theorem dX11_porch_17 : decode cX11_porch 17 = .ok (.ifCond .ne 5, 3) := by decide +kernel
theorem dX11_porch_20 : decode cX11_porch 20 = .ok (.iconst (-1), 1) := by decide +kernel
theorem dX11_porch_21 : decode cX11_porch 21 = .ok (.ireturn, 1) := by decide +kernel
theorem dX11_porch_22 : decode cX11_porch 22 = .ok (.aload_n 0, 1) := by decide +kernel
theorem dX11_porch_23 : decode cX11_porch 23 = .ok (.getfield 19, 3) := by decide +kernel
theorem dX11_porch_26 : decode cX11_porch 26 = .ok (.iload_n 1, 1) := by decide +kernel
theorem dX11_porch_27 : decode cX11_porch 27 = .ok (.iload_n 2, 1) := by decide +kernel
theorem dX11_porch_28 : decode cX11_porch 28 = .ok (.invokevirtual 121, 3) := by decide +kernel
theorem dX11_porch_31 : decode cX11_porch 31 = .ok (.istore_n 3, 1) := by decide +kernel
theorem dX11_porch_32 : decode cX11_porch 32 = .ok (.iload_n 3, 1) := by decide +kernel
theorem dX11_porch_33 : decode cX11_porch 33 = .ok (.iconst (-1), 1) := by decide +kernel
theorem dX11_porch_34 : decode cX11_porch 34 = .ok (.if_icmp .eq 10, 3) := by decide +kernel
theorem dX11_porch_37 : decode cX11_porch 37 = .ok (.aload_n 0, 1) := by decide +kernel
theorem dX11_porch_38 : decode cX11_porch 38 = .ok (.getfield 42, 3) := by decide +kernel
theorem dX11_porch_41 : decode cX11_porch 41 = .ok (.invokevirtual 114, 3) := by decide +kernel
theorem dX11_porch_44 : decode cX11_porch 44 = .ok (.iload_n 3, 1) := by decide +kernel
theorem dX11_porch_45 : decode cX11_porch 45 = .ok (.ireturn, 1) := by decide +kernel
theorem dX11_person_0 : decode cX11_person 0 = .ok (.iload_n 1, 1) := by decide +kernel
theorem dX11_person_1 : decode cX11_person 1 = .ok (.iconst 0, 1) := by decide +kernel
theorem dX11_person_2 : decode cX11_person 2 = .ok (.bipush 9, 2) := by decide +kernel
theorem dX11_person_4 : decode cX11_person 4 = .ok (.invokestatic 117, 3) := by decide +kernel
theorem dX11_person_7 : decode cX11_person 7 = .ok (.ifCond .eq 13, 3) := by decide +kernel
theorem dX11_person_10 : decode cX11_person 10 = .ok (.iload_n 2, 1) := by decide +kernel
theorem dX11_person_11 : decode cX11_person 11 = .ok (.iconst 0, 1) := by decide +kernel
theorem dX11_person_12 : decode cX11_person 12 = .ok (.bipush 9, 2) := by decide +kernel
theorem dX11_person_14 : decode cX11_person 14 = .ok (.invokestatic 117, 3) := by decide +kernel
theorem dX11_person_17 : decode cX11_person 17 = .ok (.ifCond .ne 5, 3) := by decide +kernel
theorem dX11_person_20 : decode cX11_person 20 = .ok (.iconst (-1), 1) := by decide +kernel
theorem dX11_person_21 : decode cX11_person 21 = .ok (.ireturn, 1) := by decide +kernel
theorem dX11_person_22 : decode cX11_person 22 = .ok (.aload_n 0, 1) := by decide +kernel
theorem dX11_person_23 : decode cX11_person 23 = .ok (.getfield 19, 3) := by decide +kernel
theorem dX11_person_26 : decode cX11_person 26 = .ok (.iload_n 1, 1) := by decide +kernel
theorem dX11_person_27 : decode cX11_person 27 = .ok (.iload_n 2, 1) := by decide +kernel
theorem dX11_person_28 : decode cX11_person 28 = .ok (.invokevirtual 125, 3) := by decide +kernel
theorem dX11_person_31 : decode cX11_person 31 = .ok (.istore_n 3, 1) := by decide +kernel
theorem dX11_person_32 : decode cX11_person 32 = .ok (.iload_n 3, 1) := by decide +kernel
theorem dX11_person_33 : decode cX11_person 33 = .ok (.iconst (-1), 1) := by decide +kernel
theorem dX11_person_34 : decode cX11_person 34 = .ok (.if_icmp .eq 10, 3) := by decide +kernel
theorem dX11_person_37 : decode cX11_person 37 = .ok (.aload_n 0, 1) := by decide +kernel
theorem dX11_person_38 : decode cX11_person 38 = .ok (.getfield 42, 3) := by decide +kernel
theorem dX11_person_41 : decode cX11_person 41 = .ok (.invokevirtual 114, 3) := by decide +kernel
theorem dX11_person_44 : decode cX11_person 44 = .ok (.iload_n 3, 1) := by decide +kernel
theorem dX11_person_45 : decode cX11_person 45 = .ok (.ireturn, 1) := by decide +kernel
theorem dX11_set_0 : decode cX11_set 0 = .ok (.iload_n 1, 1) := by decide +kernel
theorem dX11_set_1 : decode cX11_set 1 = .ok (.ifCond .eq 8, 3) := by decide +kernel
theorem dX11_set_4 : decode cX11_set 4 = .ok (.iload_n 1, 1) := by decide +kernel
theorem dX11_set_5 : decode cX11_set 5 = .ok (.iconst 1, 1) := by decide +kernel
theorem dX11_set_6 : decode cX11_set 6 = .ok (.if_icmp .ne 13, 3) := by decide +kernel
theorem dX11_set_9 : decode cX11_set 9 = .ok (.aload_n 0, 1) := by decide +kernel
theorem dX11_set_10 : decode cX11_set 10 = .ok (.iload_n 1, 1) := by decide +kernel
theorem dX11_set_11 : decode cX11_set 11 = .ok (.iload_n 2, 1) := by decide +kernel
theorem dX11_set_12 : decode cX11_set 12 = .ok (.iload_n 3, 1) := by decide +kernel
theorem dX11_set_13 : decode cX11_set 13 = .ok (.invokevirtual 128, 3) := by decide +kernel
theorem dX11_set_16 : decode cX11_set 16 = .ok (.goto 10, 3) := by decide +kernel
theorem dX11_set_19 : decode cX11_set 19 = .ok (.aload_n 0, 1) := by decide +kernel
theorem dX11_set_20 : decode cX11_set 20 = .ok (.iload_n 1, 1) := by decide +kernel
theorem dX11_set_21 : decode cX11_set 21 = .ok (.iload_n 2, 1) := by decide +kernel
theorem dX11_set_22 : decode cX11_set 22 = .ok (.iload_n 3, 1) := by decide +kernel
theorem dX11_set_23 : decode cX11_set 23 = .ok (.invokevirtual 131, 3) := by decide +kernel
theorem dX11_set_26 : decode cX11_set 26 = .ok (.istore 4, 2) := by decide +kernel
theorem dX11_set_28 : decode cX11_set 28 = .ok (.iload 4, 2) := by decide +kernel
theorem dX11_set_30 : decode cX11_set 30 = .ok (.ifCond .eq 10, 3) := by decide +kernel
theorem dX11_set_33 : decode cX11_set 33 = .ok (.aload_n 0, 1) := by decide +kernel
theorem dX11_set_34 : decode cX11_set 34 = .ok (.getfield 42, 3) := by decide +kernel
theorem dX11_set_37 : decode cX11_set 37 = .ok (.invokevirtual 114, 3) := by decide +kernel
theorem dX11_set_40 : decode cX11_set 40 = .ok (.iload 4, 2) := by decide +kernel
theorem dX11_set_42 : decode cX11_set 42 = .ok (.ireturn, 1) := by decide +kernel
theorem dX11_changePorch_0 : decode cX11_changePorch 0 = .ok (.aload_n 0, 1) := by decide +kernel
theorem dX11_changePorch_1 : decode cX11_changePorch 1 = .ok (.getfield 19, 3) := by decide +kernel
theorem dX11_changePorch_4 : decode cX11_changePorch 4 = .ok (.iload_n 2, 1) := by decide +kernel
theorem dX11_changePorch_5 : decode cX11_changePorch 5 = .ok (.invokevirtual 134, 3) := by decide +kernel
theorem dX11_changePorch_8 : decode cX11_changePorch 8 = .ok (.ifCond .ne 5, 3) := by decide +kernel
theorem dX11_changePorch_11 : decode cX11_changePorch 11 = .ok (.iconst 0, 1) := by decide +kernel
theorem dX11_changePorch_12 : decode cX11_changePorch 12 = .ok (.ireturn, 1) := by decide +kernel
theorem dX11_changePorch_13 : decode cX11_changePorch 13 = .ok (.iload_n 1, 1) := by decide +kernel
theorem dX11_changePorch_14 : decode cX11_changePorch 14 = .ok (.ifCond .ne 27, 3) := by decide +kernel
theorem dX11_changePorch_17 : decode cX11_changePorch 17 = .ok (.iload_n 3, 1) := by decide +kernel
theorem dX11_changePorch_18 : decode cX11_changePorch 18 = .ok (.iconst 0, 1) := by decide +kernel
theorem dX11_changePorch_19 : decode cX11_changePorch 19 = .ok (.bipush 99, 2) := by decide +kernel
theorem dX11_changePorch_21 : decode cX11_changePorch 21 = .ok (.invokestatic 117, 3) := by decide +kernel
theorem dX11_changePorch_24 : decode cX11_changePorch 24 = .ok (.ifCond .ne 5, 3) := by decide +kernel
theorem dX11_changePorch_27 : decode cX11_changePorch 27 = .ok (.iconst 0, 1) := by decide +kernel
theorem dX11_changePorch_28 : decode cX11_changePorch 28 = .ok (.ireturn, 1) := by decide +kernel
theorem dX11_changePorch_29 : decode cX11_changePorch 29 = .ok (.aload_n 0, 1) := by decide +kernel
theorem dX11_changePorch_30 : decode cX11_changePorch 30 = .ok (.getfield 19, 3) := by decide +kernel
theorem dX11_changePorch_33 : decode cX11_changePorch 33 = .ok (.getfield 138, 3) := by decide +kernel
theorem dX11_changePorch_36 : decode cX11_changePorch 36 = .ok (.iload_n 2, 1) := by decide +kernel
theorem dX11_changePorch_37 : decode cX11_changePorch 37 = .ok (.iload_n 3, 1) := by decide +kernel
theorem dX11_changePorch_38 : decode cX11_changePorch 38 = .ok (.iastore, 1) := by decide +kernel
theorem dX11_changePorch_39 : decode cX11_changePorch 39 = .ok (.iconst 1, 1) := by decide +kernel
theorem dX11_changePorch_40 : decode cX11_changePorch 40 = .ok (.ireturn, 1) := by decide +kernel
theorem dX11_changePorch_41 : decode cX11_changePorch 41 = .ok (.iload_n 3, 1) := by decide +kernel
theorem dX11_changePorch_42 : decode cX11_changePorch 42 = .ok (.iconst (-1), 1) := by decide +kernel
theorem dX11_changePorch_43 : decode cX11_changePorch 43 = .ok (.if_icmp .eq 16, 3) := by decide +kernel
theorem dX11_changePorch_46 : decode cX11_changePorch 46 = .ok (.aload_n 0, 1) := by decide +kernel
theorem dX11_changePorch_47 : decode cX11_changePorch 47 = .ok (.getfield 19, 3) := by decide +kernel
theorem dX11_changePorch_50 : decode cX11_changePorch 50 = .ok (.iload_n 3, 1) := by decide +kernel
theorem dX11_changePorch_51 : decode cX11_changePorch 51 = .ok (.invokevirtual 142, 3) := by decide +kernel
theorem dX11_changePorch_54 : decode cX11_changePorch 54 = .ok (.ifCond .ne 5, 3) := by decide +kernel
theorem dX11_changePorch_57 : decode cX11_changePorch 57 = .ok (.iconst 0, 1) := by decide +kernel
theorem dX11_changePorch_58 : decode cX11_changePorch 58 = .ok (.ireturn, 1) := by decide +kernel
theorem dX11_changePorch_59 : decode cX11_changePorch 59 = .ok (.aload_n 0, 1) := by decide +kernel
theorem dX11_changePorch_60 : decode cX11_changePorch 60 = .ok (.getfield 19, 3) := by decide +kernel
theorem dX11_changePorch_63 : decode cX11_changePorch 63 = .ok (.getfield 145, 3) := by decide +kernel
theorem dX11_changePorch_66 : decode cX11_changePorch 66 = .ok (.iload_n 2, 1) := by decide +kernel
theorem dX11_changePorch_67 : decode cX11_changePorch 67 = .ok (.iload_n 3, 1) := by decide +kernel
theorem dX11_changePorch_68 : decode cX11_changePorch 68 = .ok (.iastore, 1) := by decide +kernel
theorem dX11_changePorch_69 : decode cX11_changePorch 69 = .ok (.iconst 1, 1) := by decide +kernel
theorem dX11_changePorch_70 : decode cX11_changePorch 70 = .ok (.ireturn, 1) := by decide +kernel
theorem dX11_changePerson_0 : decode cX11_changePerson 0 = .ok (.iload_n 1, 1) := by decide +kernel
theorem dX11_changePerson_1 : decode cX11_changePerson 1 = .ok (.iconst 2, 1) := by decide +kernel
theorem dX11_changePerson_2 : decode cX11_changePerson 2 = .ok (.if_icmp .eq 10, 3) := by decide +kernel
theorem dX11_changePerson_5 : decode cX11_changePerson 5 = .ok (.iload_n 1, 1) := by decide +kernel
theorem dX11_changePerson_6 : decode cX11_changePerson 6 = .ok (.iconst 3, 1) := by decide +kernel
theorem dX11_changePerson_7 : decode cX11_changePerson 7 = .ok (.if_icmp .eq 5, 3) := by decide +kernel
theorem dX11_changePerson_10 : decode cX11_changePerson 10 = .ok (.iconst 0, 1) := by decide +kernel
theorem dX11_changePerson_11 : decode cX11_changePerson 11 = .ok (.ireturn, 1) := by decide +kernel
theorem dX11_changePerson_12 : decode cX11_changePerson 12 = .ok (.aload_n 0, 1) := by decide +kernel
theorem dX11_changePerson_13 : decode cX11_changePerson 13 = .ok (.getfield 19, 3) := by decide +kernel
theorem dX11_changePerson_16 : decode cX11_changePerson 16 = .ok (.iload_n 2, 1) := by decide +kernel
theorem dX11_changePerson_17 : decode cX11_changePerson 17 = .ok (.invokevirtual 142, 3) := by decide +kernel
theorem dX11_changePerson_20 : decode cX11_changePerson 20 = .ok (.ifCond .eq 13, 3) := by decide +kernel
theorem dX11_changePerson_23 : decode cX11_changePerson 23 = .ok (.iload_n 3, 1) := by decide +kernel
theorem dX11_changePerson_24 : decode cX11_changePerson 24 = .ok (.iconst 0, 1) := by decide +kernel
theorem dX11_changePerson_25 : decode cX11_changePerson 25 = .ok (.bipush 9, 2) := by decide +kernel
theorem dX11_changePerson_27 : decode cX11_changePerson 27 = .ok (.invokestatic 117, 3) := by decide +kernel
theorem dX11_changePerson_30 : decode cX11_changePerson 30 = .ok (.ifCond .ne 5, 3) := by decide +kernel
theorem dX11_changePerson_33 : decode cX11_changePerson 33 = .ok (.iconst 0, 1) := by decide +kernel
theorem dX11_changePerson_34 : decode cX11_changePerson 34 = .ok (.ireturn, 1) := by decide +kernel
theorem dX11_changePerson_35 : decode cX11_changePerson 35 = .ok (.iload_n 1, 1) := by decide +kernel
theorem dX11_changePerson_36 : decode cX11_changePerson 36 = .ok (.iconst 2, 1) := by decide +kernel
theorem dX11_changePerson_37 : decode cX11_changePerson 37 = .ok (.if_icmp .ne 16, 3) := by decide +kernel
theorem dX11_changePerson_40 : decode cX11_changePerson 40 = .ok (.aload_n 0, 1) := by decide +kernel
theorem dX11_changePerson_41 : decode cX11_changePerson 41 = .ok (.getfield 19, 3) := by decide +kernel
theorem dX11_changePerson_44 : decode cX11_changePerson 44 = .ok (.getfield 148, 3) := by decide +kernel
theorem dX11_changePerson_47 : decode cX11_changePerson 47 = .ok (.iload_n 2, 1) := by decide +kernel
theorem dX11_changePerson_48 : decode cX11_changePerson 48 = .ok (.iload_n 3, 1) := by decide +kernel
theorem dX11_changePerson_49 : decode cX11_changePerson 49 = .ok (.iastore, 1) := by decide +kernel
theorem dX11_changePerson_50 : decode cX11_changePerson 50 = .ok (.goto 13, 3) := by decide +kernel
theorem dX11_changePerson_53 : decode cX11_changePerson 53 = .ok (.aload_n 0, 1) := by decide +kernel
theorem dX11_changePerson_54 : decode cX11_changePerson 54 = .ok (.getfield 19, 3) := by decide +kernel
theorem dX11_changePerson_57 : decode cX11_changePerson 57 = .ok (.getfield 151, 3) := by decide +kernel
theorem dX11_changePerson_60 : decode cX11_changePerson 60 = .ok (.iload_n 2, 1) := by decide +kernel
theorem dX11_changePerson_61 : decode cX11_changePerson 61 = .ok (.iload_n 3, 1) := by decide +kernel
theorem dX11_changePerson_62 : decode cX11_changePerson 62 = .ok (.iastore, 1) := by decide +kernel
theorem dX11_changePerson_63 : decode cX11_changePerson 63 = .ok (.iconst 1, 1) := by decide +kernel
theorem dX11_changePerson_64 : decode cX11_changePerson 64 = .ok (.ireturn, 1) := by decide +kernel
theorem dX11_act_0 : decode cX11_act 0 = .ok (.iload_n 1, 1) := by decide +kernel
theorem dX11_act_1 : decode cX11_act 1 = .ok (.ifCond .ne 10, 3) := by decide +kernel
theorem dX11_act_4 : decode cX11_act 4 = .ok (.aload_n 0, 1) := by decide +kernel
theorem dX11_act_5 : decode cX11_act 5 = .ok (.iload_n 2, 1) := by decide +kernel
theorem dX11_act_6 : decode cX11_act 6 = .ok (.iload_n 3, 1) := by decide +kernel
theorem dX11_act_7 : decode cX11_act 7 = .ok (.invokevirtual 154, 3) := by decide +kernel
theorem dX11_act_10 : decode cX11_act 10 = .ok (.ireturn, 1) := by decide +kernel
theorem dX11_act_11 : decode cX11_act 11 = .ok (.iload_n 1, 1) := by decide +kernel
theorem dX11_act_12 : decode cX11_act 12 = .ok (.iconst 1, 1) := by decide +kernel
theorem dX11_act_13 : decode cX11_act 13 = .ok (.if_icmp .ne 9, 3) := by decide +kernel
theorem dX11_act_16 : decode cX11_act 16 = .ok (.aload_n 0, 1) := by decide +kernel
theorem dX11_act_17 : decode cX11_act 17 = .ok (.iload_n 2, 1) := by decide +kernel
theorem dX11_act_18 : decode cX11_act 18 = .ok (.invokevirtual 158, 3) := by decide +kernel
theorem dX11_act_21 : decode cX11_act 21 = .ok (.ireturn, 1) := by decide +kernel
theorem dX11_act_22 : decode cX11_act 22 = .ok (.iload_n 1, 1) := by decide +kernel
theorem dX11_act_23 : decode cX11_act 23 = .ok (.iconst 2, 1) := by decide +kernel
theorem dX11_act_24 : decode cX11_act 24 = .ok (.if_icmp .ne 9, 3) := by decide +kernel
theorem dX11_act_27 : decode cX11_act 27 = .ok (.aload_n 0, 1) := by decide +kernel
theorem dX11_act_28 : decode cX11_act 28 = .ok (.iload_n 2, 1) := by decide +kernel
theorem dX11_act_29 : decode cX11_act 29 = .ok (.invokevirtual 161, 3) := by decide +kernel
theorem dX11_act_32 : decode cX11_act 32 = .ok (.ireturn, 1) := by decide +kernel
theorem dX11_act_33 : decode cX11_act 33 = .ok (.iload_n 1, 1) := by decide +kernel
theorem dX11_act_34 : decode cX11_act 34 = .ok (.iconst 3, 1) := by decide +kernel
theorem dX11_act_35 : decode cX11_act 35 = .ok (.if_icmp .ne 16, 3) := by decide +kernel
theorem dX11_act_38 : decode cX11_act 38 = .ok (.aload_n 0, 1) := by decide +kernel
theorem dX11_act_39 : decode cX11_act 39 = .ok (.iload_n 2, 1) := by decide +kernel
theorem dX11_act_40 : decode cX11_act 40 = .ok (.iload_n 3, 1) := by decide +kernel
theorem dX11_act_41 : decode cX11_act 41 = .ok (.invokevirtual 164, 3) := by decide +kernel
theorem dX11_act_44 : decode cX11_act 44 = .ok (.ifCond .eq 7, 3) := by decide +kernel
theorem dX11_act_47 : decode cX11_act 47 = .ok (.iconst 1, 1) := by decide +kernel
theorem dX11_act_48 : decode cX11_act 48 = .ok (.goto 4, 3) := by decide +kernel
theorem dX11_act_51 : decode cX11_act 51 = .ok (.iconst 0, 1) := by decide +kernel
theorem dX11_act_52 : decode cX11_act 52 = .ok (.ireturn, 1) := by decide +kernel
theorem dX11_sitByHand_0 : decode cX11_sitByHand 0 = .ok (.aload_n 0, 1) := by decide +kernel
theorem dX11_sitByHand_1 : decode cX11_sitByHand 1 = .ok (.getfield 19, 3) := by decide +kernel
theorem dX11_sitByHand_4 : decode cX11_sitByHand 4 = .ok (.iload_n 1, 1) := by decide +kernel
theorem dX11_sitByHand_5 : decode cX11_sitByHand 5 = .ok (.invokevirtual 142, 3) := by decide +kernel
theorem dX11_sitByHand_8 : decode cX11_sitByHand 8 = .ok (.ifCond .eq 14, 3) := by decide +kernel
theorem dX11_sitByHand_11 : decode cX11_sitByHand 11 = .ok (.aload_n 0, 1) := by decide +kernel
theorem dX11_sitByHand_12 : decode cX11_sitByHand 12 = .ok (.getfield 19, 3) := by decide +kernel
theorem dX11_sitByHand_15 : decode cX11_sitByHand 15 = .ok (.iload_n 2, 1) := by decide +kernel
theorem dX11_sitByHand_16 : decode cX11_sitByHand 16 = .ok (.invokevirtual 134, 3) := by decide +kernel
theorem dX11_sitByHand_19 : decode cX11_sitByHand 19 = .ok (.ifCond .ne 5, 3) := by decide +kernel
theorem dX11_sitByHand_22 : decode cX11_sitByHand 22 = .ok (.iconst 0, 1) := by decide +kernel
theorem dX11_sitByHand_23 : decode cX11_sitByHand 23 = .ok (.ireturn, 1) := by decide +kernel
theorem dX11_sitByHand_24 : decode cX11_sitByHand 24 = .ok (.aload_n 0, 1) := by decide +kernel
theorem dX11_sitByHand_25 : decode cX11_sitByHand 25 = .ok (.getfield 19, 3) := by decide +kernel
theorem dX11_sitByHand_28 : decode cX11_sitByHand 28 = .ok (.getfield 167, 3) := by decide +kernel
theorem dX11_sitByHand_31 : decode cX11_sitByHand 31 = .ok (.iload_n 1, 1) := by decide +kernel
theorem dX11_sitByHand_32 : decode cX11_sitByHand 32 = .ok (.iaload, 1) := by decide +kernel
theorem dX11_sitByHand_33 : decode cX11_sitByHand 33 = .ok (.iconst (-1), 1) := by decide +kernel
theorem dX11_sitByHand_34 : decode cX11_sitByHand 34 = .ok (.if_icmp .ne 14, 3) := by decide +kernel
theorem dX11_sitByHand_37 : decode cX11_sitByHand 37 = .ok (.aload_n 0, 1) := by decide +kernel
theorem dX11_sitByHand_38 : decode cX11_sitByHand 38 = .ok (.getfield 19, 3) := by decide +kernel
theorem dX11_sitByHand_41 : decode cX11_sitByHand 41 = .ok (.iload_n 2, 1) := by decide +kernel
theorem dX11_sitByHand_42 : decode cX11_sitByHand 42 = .ok (.invokevirtual 170, 3) := by decide +kernel
theorem dX11_sitByHand_45 : decode cX11_sitByHand 45 = .ok (.ifCond .ne 5, 3) := by decide +kernel
theorem dX11_sitByHand_48 : decode cX11_sitByHand 48 = .ok (.iconst 0, 1) := by decide +kernel
theorem dX11_sitByHand_49 : decode cX11_sitByHand 49 = .ok (.ireturn, 1) := by decide +kernel
theorem dX11_sitByHand_50 : decode cX11_sitByHand 50 = .ok (.aload_n 0, 1) := by decide +kernel
theorem dX11_sitByHand_51 : decode cX11_sitByHand 51 = .ok (.getfield 42, 3) := by decide +kernel
theorem dX11_sitByHand_54 : decode cX11_sitByHand 54 = .ok (.aload_n 0, 1) := by decide +kernel
theorem dX11_sitByHand_55 : decode cX11_sitByHand 55 = .ok (.getfield 19, 3) := by decide +kernel
theorem dX11_sitByHand_58 : decode cX11_sitByHand 58 = .ok (.aload_n 0, 1) := by decide +kernel
theorem dX11_sitByHand_59 : decode cX11_sitByHand 59 = .ok (.getfield 35, 3) := by decide +kernel
theorem dX11_sitByHand_62 : decode cX11_sitByHand 62 = .ok (.invokevirtual 173, 3) := by decide +kernel
theorem dX11_sitByHand_65 : decode cX11_sitByHand 65 = .ok (.invokevirtual 177, 3) := by decide +kernel
theorem dX11_sitByHand_68 : decode cX11_sitByHand 68 = .ok (.aload_n 0, 1) := by decide +kernel
theorem dX11_sitByHand_69 : decode cX11_sitByHand 69 = .ok (.getfield 69, 3) := by decide +kernel
theorem dX11_sitByHand_72 : decode cX11_sitByHand 72 = .ok (.iload_n 1, 1) := by decide +kernel
theorem dX11_sitByHand_73 : decode cX11_sitByHand 73 = .ok (.iload_n 2, 1) := by decide +kernel
theorem dX11_sitByHand_74 : decode cX11_sitByHand 74 = .ok (.bipush 60, 2) := by decide +kernel
theorem dX11_sitByHand_76 : decode cX11_sitByHand 76 = .ok (.invokevirtual 181, 3) := by decide +kernel
theorem dX11_sitByHand_79 : decode cX11_sitByHand 79 = .ok (.iconst 1, 1) := by decide +kernel
theorem dX11_sitByHand_80 : decode cX11_sitByHand 80 = .ok (.ireturn, 1) := by decide +kernel
theorem dX11_riseByHand_0 : decode cX11_riseByHand 0 = .ok (.aload_n 0, 1) := by decide +kernel
theorem dX11_riseByHand_1 : decode cX11_riseByHand 1 = .ok (.getfield 19, 3) := by decide +kernel
theorem dX11_riseByHand_4 : decode cX11_riseByHand 4 = .ok (.iload_n 1, 1) := by decide +kernel
theorem dX11_riseByHand_5 : decode cX11_riseByHand 5 = .ok (.invokevirtual 142, 3) := by decide +kernel
theorem dX11_riseByHand_8 : decode cX11_riseByHand 8 = .ok (.ifCond .eq 16, 3) := by decide +kernel
theorem dX11_riseByHand_11 : decode cX11_riseByHand 11 = .ok (.aload_n 0, 1) := by decide +kernel
theorem dX11_riseByHand_12 : decode cX11_riseByHand 12 = .ok (.getfield 19, 3) := by decide +kernel
theorem dX11_riseByHand_15 : decode cX11_riseByHand 15 = .ok (.getfield 167, 3) := by decide +kernel
theorem dX11_riseByHand_18 : decode cX11_riseByHand 18 = .ok (.iload_n 1, 1) := by decide +kernel
theorem dX11_riseByHand_19 : decode cX11_riseByHand 19 = .ok (.iaload, 1) := by decide +kernel
theorem dX11_riseByHand_20 : decode cX11_riseByHand 20 = .ok (.iconst (-1), 1) := by decide +kernel
theorem dX11_riseByHand_21 : decode cX11_riseByHand 21 = .ok (.if_icmp .ne 5, 3) := by decide +kernel
theorem dX11_riseByHand_24 : decode cX11_riseByHand 24 = .ok (.iconst 0, 1) := by decide +kernel
theorem dX11_riseByHand_25 : decode cX11_riseByHand 25 = .ok (.ireturn, 1) := by decide +kernel
theorem dX11_riseByHand_26 : decode cX11_riseByHand 26 = .ok (.aload_n 0, 1) := by decide +kernel
theorem dX11_riseByHand_27 : decode cX11_riseByHand 27 = .ok (.getfield 42, 3) := by decide +kernel
theorem dX11_riseByHand_30 : decode cX11_riseByHand 30 = .ok (.aload_n 0, 1) := by decide +kernel
theorem dX11_riseByHand_31 : decode cX11_riseByHand 31 = .ok (.getfield 19, 3) := by decide +kernel
theorem dX11_riseByHand_34 : decode cX11_riseByHand 34 = .ok (.aload_n 0, 1) := by decide +kernel
theorem dX11_riseByHand_35 : decode cX11_riseByHand 35 = .ok (.getfield 35, 3) := by decide +kernel
theorem dX11_riseByHand_38 : decode cX11_riseByHand 38 = .ok (.invokevirtual 173, 3) := by decide +kernel
theorem dX11_riseByHand_41 : decode cX11_riseByHand 41 = .ok (.invokevirtual 177, 3) := by decide +kernel
theorem dX11_riseByHand_44 : decode cX11_riseByHand 44 = .ok (.aload_n 0, 1) := by decide +kernel
theorem dX11_riseByHand_45 : decode cX11_riseByHand 45 = .ok (.getfield 19, 3) := by decide +kernel
theorem dX11_riseByHand_48 : decode cX11_riseByHand 48 = .ok (.iload_n 1, 1) := by decide +kernel
theorem dX11_riseByHand_49 : decode cX11_riseByHand 49 = .ok (.invokevirtual 185, 3) := by decide +kernel
theorem dX11_riseByHand_52 : decode cX11_riseByHand 52 = .ok (.iconst 1, 1) := by decide +kernel
theorem dX11_riseByHand_53 : decode cX11_riseByHand 53 = .ok (.ireturn, 1) := by decide +kernel
theorem dX11_sweepByHand_0 : decode cX11_sweepByHand 0 = .ok (.aload_n 0, 1) := by decide +kernel
theorem dX11_sweepByHand_1 : decode cX11_sweepByHand 1 = .ok (.getfield 19, 3) := by decide +kernel
theorem dX11_sweepByHand_4 : decode cX11_sweepByHand 4 = .ok (.iload_n 1, 1) := by decide +kernel
theorem dX11_sweepByHand_5 : decode cX11_sweepByHand 5 = .ok (.invokevirtual 134, 3) := by decide +kernel
theorem dX11_sweepByHand_8 : decode cX11_sweepByHand 8 = .ok (.ifCond .ne 5, 3) := by decide +kernel
theorem dX11_sweepByHand_11 : decode cX11_sweepByHand 11 = .ok (.iconst 0, 1) := by decide +kernel
theorem dX11_sweepByHand_12 : decode cX11_sweepByHand 12 = .ok (.ireturn, 1) := by decide +kernel
theorem dX11_sweepByHand_13 : decode cX11_sweepByHand 13 = .ok (.aload_n 0, 1) := by decide +kernel
theorem dX11_sweepByHand_14 : decode cX11_sweepByHand 14 = .ok (.getfield 42, 3) := by decide +kernel
theorem dX11_sweepByHand_17 : decode cX11_sweepByHand 17 = .ok (.aload_n 0, 1) := by decide +kernel
theorem dX11_sweepByHand_18 : decode cX11_sweepByHand 18 = .ok (.getfield 19, 3) := by decide +kernel
theorem dX11_sweepByHand_21 : decode cX11_sweepByHand 21 = .ok (.aload_n 0, 1) := by decide +kernel
theorem dX11_sweepByHand_22 : decode cX11_sweepByHand 22 = .ok (.getfield 35, 3) := by decide +kernel
theorem dX11_sweepByHand_25 : decode cX11_sweepByHand 25 = .ok (.invokevirtual 173, 3) := by decide +kernel
theorem dX11_sweepByHand_28 : decode cX11_sweepByHand 28 = .ok (.invokevirtual 177, 3) := by decide +kernel
theorem dX11_sweepByHand_31 : decode cX11_sweepByHand 31 = .ok (.aload_n 0, 1) := by decide +kernel
theorem dX11_sweepByHand_32 : decode cX11_sweepByHand 32 = .ok (.getfield 69, 3) := by decide +kernel
theorem dX11_sweepByHand_35 : decode cX11_sweepByHand 35 = .ok (.iload_n 1, 1) := by decide +kernel
theorem dX11_sweepByHand_36 : decode cX11_sweepByHand 36 = .ok (.invokevirtual 189, 3) := by decide +kernel
theorem dX11_sweepByHand_39 : decode cX11_sweepByHand 39 = .ok (.iconst 1, 1) := by decide +kernel
theorem dX11_sweepByHand_40 : decode cX11_sweepByHand 40 = .ok (.ireturn, 1) := by decide +kernel
theorem dX11_fillByHand_0 : decode cX11_fillByHand 0 = .ok (.aload_n 0, 1) := by decide +kernel
theorem dX11_fillByHand_1 : decode cX11_fillByHand 1 = .ok (.getfield 19, 3) := by decide +kernel
theorem dX11_fillByHand_4 : decode cX11_fillByHand 4 = .ok (.iload_n 1, 1) := by decide +kernel
theorem dX11_fillByHand_5 : decode cX11_fillByHand 5 = .ok (.invokevirtual 134, 3) := by decide +kernel
theorem dX11_fillByHand_8 : decode cX11_fillByHand 8 = .ok (.ifCond .eq 13, 3) := by decide +kernel
theorem dX11_fillByHand_11 : decode cX11_fillByHand 11 = .ok (.iload_n 2, 1) := by decide +kernel
theorem dX11_fillByHand_12 : decode cX11_fillByHand 12 = .ok (.iconst 0, 1) := by decide +kernel
theorem dX11_fillByHand_13 : decode cX11_fillByHand 13 = .ok (.bipush 99, 2) := by decide +kernel
theorem dX11_fillByHand_15 : decode cX11_fillByHand 15 = .ok (.invokestatic 117, 3) := by decide +kernel
theorem dX11_fillByHand_18 : decode cX11_fillByHand 18 = .ok (.ifCond .ne 5, 3) := by decide +kernel
theorem dX11_fillByHand_21 : decode cX11_fillByHand 21 = .ok (.iconst 0, 1) := by decide +kernel
theorem dX11_fillByHand_22 : decode cX11_fillByHand 22 = .ok (.ireturn, 1) := by decide +kernel
theorem dX11_fillByHand_23 : decode cX11_fillByHand 23 = .ok (.aload_n 0, 1) := by decide +kernel
theorem dX11_fillByHand_24 : decode cX11_fillByHand 24 = .ok (.getfield 42, 3) := by decide +kernel
theorem dX11_fillByHand_27 : decode cX11_fillByHand 27 = .ok (.aload_n 0, 1) := by decide +kernel
theorem dX11_fillByHand_28 : decode cX11_fillByHand 28 = .ok (.getfield 19, 3) := by decide +kernel
theorem dX11_fillByHand_31 : decode cX11_fillByHand 31 = .ok (.aload_n 0, 1) := by decide +kernel
theorem dX11_fillByHand_32 : decode cX11_fillByHand 32 = .ok (.getfield 35, 3) := by decide +kernel
theorem dX11_fillByHand_35 : decode cX11_fillByHand 35 = .ok (.invokevirtual 173, 3) := by decide +kernel
theorem dX11_fillByHand_38 : decode cX11_fillByHand 38 = .ok (.invokevirtual 177, 3) := by decide +kernel
theorem dX11_fillByHand_41 : decode cX11_fillByHand 41 = .ok (.aload_n 0, 1) := by decide +kernel
theorem dX11_fillByHand_42 : decode cX11_fillByHand 42 = .ok (.getfield 19, 3) := by decide +kernel
theorem dX11_fillByHand_45 : decode cX11_fillByHand 45 = .ok (.getfield 192, 3) := by decide +kernel
theorem dX11_fillByHand_48 : decode cX11_fillByHand 48 = .ok (.iload_n 1, 1) := by decide +kernel
theorem dX11_fillByHand_49 : decode cX11_fillByHand 49 = .ok (.iload_n 2, 1) := by decide +kernel
theorem dX11_fillByHand_50 : decode cX11_fillByHand 50 = .ok (.iastore, 1) := by decide +kernel
theorem dX11_fillByHand_51 : decode cX11_fillByHand 51 = .ok (.iconst 1, 1) := by decide +kernel
theorem dX11_fillByHand_52 : decode cX11_fillByHand 52 = .ok (.ireturn, 1) := by decide +kernel
theorem dX11_minutes_0 : decode cX11_minutes 0 = .ok (.iload_n 1, 1) := by decide +kernel
theorem dX11_minutes_1 : decode cX11_minutes 1 = .ok (.iconst 1, 1) := by decide +kernel
theorem dX11_minutes_2 : decode cX11_minutes 2 = .ok (.bipush 60, 2) := by decide +kernel
theorem dX11_minutes_4 : decode cX11_minutes 4 = .ok (.invokestatic 117, 3) := by decide +kernel
theorem dX11_minutes_7 : decode cX11_minutes 7 = .ok (.ifCond .ne 5, 3) := by decide +kernel
theorem dX11_minutes_10 : decode cX11_minutes 10 = .ok (.iconst (-1), 1) := by decide +kernel
theorem dX11_minutes_11 : decode cX11_minutes 11 = .ok (.ireturn, 1) := by decide +kernel
theorem dX11_minutes_12 : decode cX11_minutes 12 = .ok (.aload_n 0, 1) := by decide +kernel
theorem dX11_minutes_13 : decode cX11_minutes 13 = .ok (.getfield 19, 3) := by decide +kernel
theorem dX11_minutes_16 : decode cX11_minutes 16 = .ok (.getfield 195, 3) := by decide +kernel
theorem dX11_minutes_19 : decode cX11_minutes 19 = .ok (.aload_n 0, 1) := by decide +kernel
theorem dX11_minutes_20 : decode cX11_minutes 20 = .ok (.getfield 19, 3) := by decide +kernel
theorem dX11_minutes_23 : decode cX11_minutes 23 = .ok (.getfield 198, 3) := by decide +kernel
theorem dX11_minutes_26 : decode cX11_minutes 26 = .ok (.iload_n 1, 1) := by decide +kernel
theorem dX11_minutes_27 : decode cX11_minutes 27 = .ok (.iadd, 1) := by decide +kernel
theorem dX11_minutes_28 : decode cX11_minutes 28 = .ok (.bipush 60, 2) := by decide +kernel
theorem dX11_minutes_30 : decode cX11_minutes 30 = .ok (.idiv, 1) := by decide +kernel
theorem dX11_minutes_31 : decode cX11_minutes 31 = .ok (.iadd, 1) := by decide +kernel
theorem dX11_minutes_32 : decode cX11_minutes 32 = .ok (.sipush 9990, 3) := by decide +kernel
theorem dX11_minutes_35 : decode cX11_minutes 35 = .ok (.if_icmp .le 5, 3) := by decide +kernel
theorem dX11_minutes_38 : decode cX11_minutes 38 = .ok (.iconst (-1), 1) := by decide +kernel
theorem dX11_minutes_39 : decode cX11_minutes 39 = .ok (.ireturn, 1) := by decide +kernel
theorem dX11_minutes_40 : decode cX11_minutes 40 = .ok (.iconst 0, 1) := by decide +kernel
theorem dX11_minutes_41 : decode cX11_minutes 41 = .ok (.istore_n 2, 1) := by decide +kernel
theorem dX11_minutes_42 : decode cX11_minutes 42 = .ok (.iconst 0, 1) := by decide +kernel
theorem dX11_minutes_43 : decode cX11_minutes 43 = .ok (.istore_n 3, 1) := by decide +kernel
theorem dX11_minutes_44 : decode cX11_minutes 44 = .ok (.iload_n 3, 1) := by decide +kernel
theorem dX11_minutes_45 : decode cX11_minutes 45 = .ok (.iload_n 1, 1) := by decide +kernel
theorem dX11_minutes_46 : decode cX11_minutes 46 = .ok (.if_icmp .ge 38, 3) := by decide +kernel
theorem dX11_minutes_49 : decode cX11_minutes 49 = .ok (.aload_n 0, 1) := by decide +kernel
theorem dX11_minutes_50 : decode cX11_minutes 50 = .ok (.getfield 42, 3) := by decide +kernel
theorem dX11_minutes_53 : decode cX11_minutes 53 = .ok (.aload_n 0, 1) := by decide +kernel
theorem dX11_minutes_54 : decode cX11_minutes 54 = .ok (.getfield 19, 3) := by decide +kernel
theorem dX11_minutes_57 : decode cX11_minutes 57 = .ok (.aload_n 0, 1) := by decide +kernel
theorem dX11_minutes_58 : decode cX11_minutes 58 = .ok (.getfield 35, 3) := by decide +kernel
theorem dX11_minutes_61 : decode cX11_minutes 61 = .ok (.invokevirtual 173, 3) := by decide +kernel
theorem dX11_minutes_64 : decode cX11_minutes 64 = .ok (.invokevirtual 177, 3) := by decide +kernel
theorem dX11_minutes_67 : decode cX11_minutes 67 = .ok (.iload_n 2, 1) := by decide +kernel
theorem dX11_minutes_68 : decode cX11_minutes 68 = .ok (.aload_n 0, 1) := by decide +kernel
theorem dX11_minutes_69 : decode cX11_minutes 69 = .ok (.getfield 69, 3) := by decide +kernel
theorem dX11_minutes_72 : decode cX11_minutes 72 = .ok (.iconst 0, 1) := by decide +kernel
theorem dX11_minutes_73 : decode cX11_minutes 73 = .ok (.invokevirtual 201, 3) := by decide +kernel
theorem dX11_minutes_76 : decode cX11_minutes 76 = .ok (.iadd, 1) := by decide +kernel
theorem dX11_minutes_77 : decode cX11_minutes 77 = .ok (.istore_n 2, 1) := by decide +kernel
theorem dX11_minutes_78 : decode cX11_minutes 78 = .ok (.iinc 3 1, 3) := by decide +kernel
theorem dX11_minutes_81 : decode cX11_minutes 81 = .ok (.goto (-37), 3) := by decide +kernel
theorem dX11_minutes_84 : decode cX11_minutes 84 = .ok (.iload_n 2, 1) := by decide +kernel
theorem dX11_minutes_85 : decode cX11_minutes 85 = .ok (.ireturn, 1) := by decide +kernel
theorem dX11_feed_0 : decode cX11_feed 0 = .ok (.aload_n 0, 1) := by decide +kernel
theorem dX11_feed_1 : decode cX11_feed 1 = .ok (.getfield 12, 3) := by decide +kernel
theorem dX11_feed_4 : decode cX11_feed 4 = .ok (.bipush 20, 2) := by decide +kernel
theorem dX11_feed_6 : decode cX11_feed 6 = .ok (.invokevirtual 205, 3) := by decide +kernel
theorem dX11_feed_9 : decode cX11_feed 9 = .ok (.ifCond .ne 5, 3) := by decide +kernel
theorem dX11_feed_12 : decode cX11_feed 12 = .ok (.iconst (-1), 1) := by decide +kernel
theorem dX11_feed_13 : decode cX11_feed 13 = .ok (.ireturn, 1) := by decide +kernel
theorem dX11_feed_14 : decode cX11_feed 14 = .ok (.aload_n 0, 1) := by decide +kernel
theorem dX11_feed_15 : decode cX11_feed 15 = .ok (.getfield 12, 3) := by decide +kernel
theorem dX11_feed_18 : decode cX11_feed 18 = .ok (.iload_n 1, 1) := by decide +kernel
theorem dX11_feed_19 : decode cX11_feed 19 = .ok (.invokevirtual 208, 3) := by decide +kernel
theorem dX11_feed_22 : decode cX11_feed 22 = .ok (.aload_n 0, 1) := by decide +kernel
theorem dX11_feed_23 : decode cX11_feed 23 = .ok (.getfield 12, 3) := by decide +kernel
theorem dX11_feed_26 : decode cX11_feed 26 = .ok (.iload_n 2, 1) := by decide +kernel
theorem dX11_feed_27 : decode cX11_feed 27 = .ok (.invokevirtual 208, 3) := by decide +kernel
theorem dX11_feed_30 : decode cX11_feed 30 = .ok (.aload_n 0, 1) := by decide +kernel
theorem dX11_feed_31 : decode cX11_feed 31 = .ok (.getfield 12, 3) := by decide +kernel
theorem dX11_feed_34 : decode cX11_feed 34 = .ok (.iload_n 3, 1) := by decide +kernel
theorem dX11_feed_35 : decode cX11_feed 35 = .ok (.invokevirtual 208, 3) := by decide +kernel
theorem dX11_feed_38 : decode cX11_feed 38 = .ok (.aload_n 0, 1) := by decide +kernel
theorem dX11_feed_39 : decode cX11_feed 39 = .ok (.getfield 12, 3) := by decide +kernel
theorem dX11_feed_42 : decode cX11_feed 42 = .ok (.iload 4, 2) := by decide +kernel
theorem dX11_feed_44 : decode cX11_feed 44 = .ok (.invokevirtual 208, 3) := by decide +kernel
theorem dX11_feed_47 : decode cX11_feed 47 = .ok (.aload_n 0, 1) := by decide +kernel
theorem dX11_feed_48 : decode cX11_feed 48 = .ok (.getfield 12, 3) := by decide +kernel
theorem dX11_feed_51 : decode cX11_feed 51 = .ok (.iload 5, 2) := by decide +kernel
theorem dX11_feed_53 : decode cX11_feed 53 = .ok (.invokevirtual 208, 3) := by decide +kernel
theorem dX11_feed_56 : decode cX11_feed 56 = .ok (.aload_n 0, 1) := by decide +kernel
theorem dX11_feed_57 : decode cX11_feed 57 = .ok (.getfield 12, 3) := by decide +kernel
theorem dX11_feed_60 : decode cX11_feed 60 = .ok (.invokevirtual 211, 3) := by decide +kernel
theorem dX11_feed_63 : decode cX11_feed 63 = .ok (.ireturn, 1) := by decide +kernel
theorem dX11_end_0 : decode cX11_end 0 = .ok (.aload_n 0, 1) := by decide +kernel
theorem dX11_end_1 : decode cX11_end 1 = .ok (.getfield 12, 3) := by decide +kernel
theorem dX11_end_4 : decode cX11_end 4 = .ok (.iload_n 1, 1) := by decide +kernel
theorem dX11_end_5 : decode cX11_end 5 = .ok (.invokevirtual 214, 3) := by decide +kernel
theorem dX11_end_8 : decode cX11_end 8 = .ok (.ireturn, 1) := by decide +kernel
theorem dX11_text_0 : decode cX11_text 0 = .ok (.aload_n 0, 1) := by decide +kernel
theorem dX11_text_1 : decode cX11_text 1 = .ok (.getfield 51, 3) := by decide +kernel
theorem dX11_text_4 : decode cX11_text 4 = .ok (.iload_n 1, 1) := by decide +kernel
theorem dX11_text_5 : decode cX11_text 5 = .ok (.invokevirtual 217, 3) := by decide +kernel
theorem dX11_text_8 : decode cX11_text 8 = .ok (.istore_n 2, 1) := by decide +kernel
theorem dX11_text_9 : decode cX11_text 9 = .ok (.aload_n 0, 1) := by decide +kernel
theorem dX11_text_10 : decode cX11_text 10 = .ok (.getfield 12, 3) := by decide +kernel
theorem dX11_text_13 : decode cX11_text 13 = .ok (.iconst 0, 1) := by decide +kernel
theorem dX11_text_14 : decode cX11_text 14 = .ok (.invokevirtual 214, 3) := by decide +kernel
theorem dX11_text_17 : decode cX11_text 17 = .ok (.pop, 1) := by decide +kernel
theorem dX11_text_18 : decode cX11_text 18 = .ok (.iload_n 2, 1) := by decide +kernel
theorem dX11_text_19 : decode cX11_text 19 = .ok (.ifCond .ne 5, 3) := by decide +kernel
theorem dX11_text_22 : decode cX11_text 22 = .ok (.iconst (-1), 1) := by decide +kernel
theorem dX11_text_23 : decode cX11_text 23 = .ok (.ireturn, 1) := by decide +kernel
theorem dX11_text_24 : decode cX11_text 24 = .ok (.aload_n 0, 1) := by decide +kernel
theorem dX11_text_25 : decode cX11_text 25 = .ok (.getfield 26, 3) := by decide +kernel
theorem dX11_text_28 : decode cX11_text 28 = .ok (.iload_n 1, 1) := by decide +kernel
theorem dX11_text_29 : decode cX11_text 29 = .ok (.invokevirtual 220, 3) := by decide +kernel
theorem dX11_text_32 : decode cX11_text 32 = .ok (.astore_n 3, 1) := by decide +kernel
theorem dX11_text_33 : decode cX11_text 33 = .ok (.aload_n 3, 1) := by decide +kernel
theorem dX11_text_34 : decode cX11_text 34 = .ok (.aload_n 0, 1) := by decide +kernel
theorem dX11_text_35 : decode cX11_text 35 = .ok (.getfield 51, 3) := by decide +kernel
theorem dX11_text_38 : decode cX11_text 38 = .ok (.invokevirtual 224, 3) := by decide +kernel
theorem dX11_text_41 : decode cX11_text 41 = .ok (.invokevirtual 228, 3) := by decide +kernel
theorem dX11_text_44 : decode cX11_text 44 = .ok (.iload_n 1, 1) := by decide +kernel
theorem dX11_text_45 : decode cX11_text 45 = .ok (.ifCond .ne 20, 3) := by decide +kernel
theorem dX11_text_48 : decode cX11_text 48 = .ok (.aload_n 0, 1) := by decide +kernel
theorem dX11_text_49 : decode cX11_text 49 = .ok (.getfield 26, 3) := by decide +kernel
theorem dX11_text_52 : decode cX11_text 52 = .ok (.getfield 231, 3) := by decide +kernel
theorem dX11_text_55 : decode cX11_text 55 = .ok (.aload_n 0, 1) := by decide +kernel
theorem dX11_text_56 : decode cX11_text 56 = .ok (.getfield 51, 3) := by decide +kernel
theorem dX11_text_59 : decode cX11_text 59 = .ok (.invokevirtual 234, 3) := by decide +kernel
theorem dX11_text_62 : decode cX11_text 62 = .ok (.invokevirtual 228, 3) := by decide +kernel
theorem dX11_text_65 : decode cX11_text 65 = .ok (.iload_n 1, 1) := by decide +kernel
theorem dX11_text_66 : decode cX11_text 66 = .ok (.iconst 1, 1) := by decide +kernel
theorem dX11_text_67 : decode cX11_text 67 = .ok (.if_icmp .eq 8, 3) := by decide +kernel
theorem dX11_text_70 : decode cX11_text 70 = .ok (.iload_n 1, 1) := by decide +kernel
theorem dX11_text_71 : decode cX11_text 71 = .ok (.iconst 2, 1) := by decide +kernel
theorem dX11_text_72 : decode cX11_text 72 = .ok (.if_icmp .ne 10, 3) := by decide +kernel
theorem dX11_text_75 : decode cX11_text 75 = .ok (.aload_n 0, 1) := by decide +kernel
theorem dX11_text_76 : decode cX11_text 76 = .ok (.getfield 42, 3) := by decide +kernel
theorem dX11_text_79 : decode cX11_text 79 = .ok (.invokevirtual 114, 3) := by decide +kernel
theorem dX11_text_82 : decode cX11_text 82 = .ok (.aload_n 3, 1) := by decide +kernel
theorem dX11_text_83 : decode cX11_text 83 = .ok (.invokevirtual 173, 3) := by decide +kernel
theorem dX11_text_86 : decode cX11_text 86 = .ok (.ireturn, 1) := by decide +kernel
theorem dX11_fault_0 : decode cX11_fault 0 = .ok (.iload_n 1, 1) := by decide +kernel
theorem dX11_fault_1 : decode cX11_fault 1 = .ok (.ifCond .ne 11, 3) := by decide +kernel
theorem dX11_fault_4 : decode cX11_fault 4 = .ok (.aload_n 0, 1) := by decide +kernel
theorem dX11_fault_5 : decode cX11_fault 5 = .ok (.getfield 51, 3) := by decide +kernel
theorem dX11_fault_8 : decode cX11_fault 8 = .ok (.invokevirtual 237, 3) := by decide +kernel
theorem dX11_fault_11 : decode cX11_fault 11 = .ok (.ireturn, 1) := by decide +kernel
theorem dX11_fault_12 : decode cX11_fault 12 = .ok (.iload_n 1, 1) := by decide +kernel
theorem dX11_fault_13 : decode cX11_fault 13 = .ok (.iconst 1, 1) := by decide +kernel
theorem dX11_fault_14 : decode cX11_fault 14 = .ok (.if_icmp .ne 13, 3) := by decide +kernel
theorem dX11_fault_17 : decode cX11_fault 17 = .ok (.aload_n 0, 1) := by decide +kernel
theorem dX11_fault_18 : decode cX11_fault 18 = .ok (.getfield 51, 3) := by decide +kernel
theorem dX11_fault_21 : decode cX11_fault 21 = .ok (.invokevirtual 240, 3) := by decide +kernel
theorem dX11_fault_24 : decode cX11_fault 24 = .ok (.goto 4, 3) := by decide +kernel
theorem dX11_fault_27 : decode cX11_fault 27 = .ok (.iconst (-1), 1) := by decide +kernel
theorem dX11_fault_28 : decode cX11_fault 28 = .ok (.ireturn, 1) := by decide +kernel
theorem dX11_porchOf_0 : decode cX11_porchOf 0 = .ok (.aload_n 0, 1) := by decide +kernel
theorem dX11_porchOf_1 : decode cX11_porchOf 1 = .ok (.getfield 19, 3) := by decide +kernel
theorem dX11_porchOf_4 : decode cX11_porchOf 4 = .ok (.iload_n 1, 1) := by decide +kernel
theorem dX11_porchOf_5 : decode cX11_porchOf 5 = .ok (.invokevirtual 134, 3) := by decide +kernel
theorem dX11_porchOf_8 : decode cX11_porchOf 8 = .ok (.ifCond .ne 6, 3) := by decide +kernel
theorem dX11_porchOf_11 : decode cX11_porchOf 11 = .ok (.bipush (-2), 2) := by decide +kernel
theorem dX11_porchOf_13 : decode cX11_porchOf 13 = .ok (.ireturn, 1) := by decide +kernel
theorem dX11_porchOf_14 : decode cX11_porchOf 14 = .ok (.iload_n 2, 1) := by decide +kernel
theorem dX11_porchOf_15 : decode cX11_porchOf 15 = .ok (.tableswitch 99 0 5 #[37, 47, 57, 67, 77, 86], 37) := by decide +kernel
theorem dX11_porchOf_52 : decode cX11_porchOf 52 = .ok (.aload_n 0, 1) := by decide +kernel
theorem dX11_porchOf_53 : decode cX11_porchOf 53 = .ok (.getfield 19, 3) := by decide +kernel
theorem dX11_porchOf_56 : decode cX11_porchOf 56 = .ok (.getfield 243, 3) := by decide +kernel
theorem dX11_porchOf_59 : decode cX11_porchOf 59 = .ok (.iload_n 1, 1) := by decide +kernel
theorem dX11_porchOf_60 : decode cX11_porchOf 60 = .ok (.iaload, 1) := by decide +kernel
theorem dX11_porchOf_61 : decode cX11_porchOf 61 = .ok (.ireturn, 1) := by decide +kernel
theorem dX11_porchOf_62 : decode cX11_porchOf 62 = .ok (.aload_n 0, 1) := by decide +kernel
theorem dX11_porchOf_63 : decode cX11_porchOf 63 = .ok (.getfield 19, 3) := by decide +kernel
theorem dX11_porchOf_66 : decode cX11_porchOf 66 = .ok (.getfield 192, 3) := by decide +kernel
theorem dX11_porchOf_69 : decode cX11_porchOf 69 = .ok (.iload_n 1, 1) := by decide +kernel
theorem dX11_porchOf_70 : decode cX11_porchOf 70 = .ok (.iaload, 1) := by decide +kernel
theorem dX11_porchOf_71 : decode cX11_porchOf 71 = .ok (.ireturn, 1) := by decide +kernel
theorem dX11_porchOf_72 : decode cX11_porchOf 72 = .ok (.aload_n 0, 1) := by decide +kernel
theorem dX11_porchOf_73 : decode cX11_porchOf 73 = .ok (.getfield 19, 3) := by decide +kernel
theorem dX11_porchOf_76 : decode cX11_porchOf 76 = .ok (.getfield 138, 3) := by decide +kernel
theorem dX11_porchOf_79 : decode cX11_porchOf 79 = .ok (.iload_n 1, 1) := by decide +kernel
theorem dX11_porchOf_80 : decode cX11_porchOf 80 = .ok (.iaload, 1) := by decide +kernel
theorem dX11_porchOf_81 : decode cX11_porchOf 81 = .ok (.ireturn, 1) := by decide +kernel
theorem dX11_porchOf_82 : decode cX11_porchOf 82 = .ok (.aload_n 0, 1) := by decide +kernel
theorem dX11_porchOf_83 : decode cX11_porchOf 83 = .ok (.getfield 19, 3) := by decide +kernel
theorem dX11_porchOf_86 : decode cX11_porchOf 86 = .ok (.getfield 145, 3) := by decide +kernel
theorem dX11_porchOf_89 : decode cX11_porchOf 89 = .ok (.iload_n 1, 1) := by decide +kernel
theorem dX11_porchOf_90 : decode cX11_porchOf 90 = .ok (.iaload, 1) := by decide +kernel
theorem dX11_porchOf_91 : decode cX11_porchOf 91 = .ok (.ireturn, 1) := by decide +kernel
theorem dX11_porchOf_92 : decode cX11_porchOf 92 = .ok (.aload_n 0, 1) := by decide +kernel
theorem dX11_porchOf_93 : decode cX11_porchOf 93 = .ok (.getfield 19, 3) := by decide +kernel
theorem dX11_porchOf_96 : decode cX11_porchOf 96 = .ok (.iload_n 1, 1) := by decide +kernel
theorem dX11_porchOf_97 : decode cX11_porchOf 97 = .ok (.invokevirtual 246, 3) := by decide +kernel
theorem dX11_porchOf_100 : decode cX11_porchOf 100 = .ok (.ireturn, 1) := by decide +kernel
theorem dX11_porchOf_101 : decode cX11_porchOf 101 = .ok (.aload_n 0, 1) := by decide +kernel
theorem dX11_porchOf_102 : decode cX11_porchOf 102 = .ok (.getfield 60, 3) := by decide +kernel
theorem dX11_porchOf_105 : decode cX11_porchOf 105 = .ok (.sipush 262, 3) := by decide +kernel
theorem dX11_porchOf_108 : decode cX11_porchOf 108 = .ok (.iconst (-1), 1) := by decide +kernel
theorem dX11_porchOf_109 : decode cX11_porchOf 109 = .ok (.iload_n 1, 1) := by decide +kernel
theorem dX11_porchOf_110 : decode cX11_porchOf 110 = .ok (.invokevirtual 252, 3) := by decide +kernel
theorem dX11_porchOf_113 : decode cX11_porchOf 113 = .ok (.ireturn, 1) := by decide +kernel
theorem dX11_porchOf_114 : decode cX11_porchOf 114 = .ok (.aload_n 0, 1) := by decide +kernel
theorem dX11_porchOf_115 : decode cX11_porchOf 115 = .ok (.getfield 19, 3) := by decide +kernel
theorem dX11_porchOf_118 : decode cX11_porchOf 118 = .ok (.iload_n 2, 1) := by decide +kernel
theorem dX11_porchOf_119 : decode cX11_porchOf 119 = .ok (.bipush 10, 2) := by decide +kernel
theorem dX11_porchOf_121 : decode cX11_porchOf 121 = .ok (.isub, 1) := by decide +kernel
theorem dX11_porchOf_122 : decode cX11_porchOf 122 = .ok (.invokevirtual 134, 3) := by decide +kernel
theorem dX11_porchOf_125 : decode cX11_porchOf 125 = .ok (.ifCond .eq 18, 3) := by decide +kernel
theorem dX11_porchOf_128 : decode cX11_porchOf 128 = .ok (.aload_n 0, 1) := by decide +kernel
theorem dX11_porchOf_129 : decode cX11_porchOf 129 = .ok (.getfield 26, 3) := by decide +kernel
theorem dX11_porchOf_132 : decode cX11_porchOf 132 = .ok (.iload_n 1, 1) := by decide +kernel
theorem dX11_porchOf_133 : decode cX11_porchOf 133 = .ok (.iload_n 2, 1) := by decide +kernel
theorem dX11_porchOf_134 : decode cX11_porchOf 134 = .ok (.bipush 10, 2) := by decide +kernel
theorem dX11_porchOf_136 : decode cX11_porchOf 136 = .ok (.isub, 1) := by decide +kernel
theorem dX11_porchOf_137 : decode cX11_porchOf 137 = .ok (.invokevirtual 256, 3) := by decide +kernel
theorem dX11_porchOf_140 : decode cX11_porchOf 140 = .ok (.goto 5, 3) := by decide +kernel
theorem dX11_porchOf_143 : decode cX11_porchOf 143 = .ok (.bipush (-2), 2) := by decide +kernel
theorem dX11_porchOf_145 : decode cX11_porchOf 145 = .ok (.ireturn, 1) := by decide +kernel
theorem dX11_of_0 : decode cX11_of 0 = .ok (.aload_n 0, 1) := by decide +kernel
theorem dX11_of_1 : decode cX11_of 1 = .ok (.getfield 19, 3) := by decide +kernel
theorem dX11_of_4 : decode cX11_of 4 = .ok (.iload_n 1, 1) := by decide +kernel
theorem dX11_of_5 : decode cX11_of 5 = .ok (.invokevirtual 142, 3) := by decide +kernel
theorem dX11_of_8 : decode cX11_of 8 = .ok (.ifCond .ne 6, 3) := by decide +kernel
theorem dX11_of_11 : decode cX11_of 11 = .ok (.bipush (-2), 2) := by decide +kernel
theorem dX11_of_13 : decode cX11_of 13 = .ok (.ireturn, 1) := by decide +kernel
theorem dX11_of_14 : decode cX11_of 14 = .ok (.iload_n 2, 1) := by decide +kernel
theorem dX11_of_15 : decode cX11_of 15 = .ok (.tableswitch 153 0 7 #[45, 55, 65, 75, 85, 95, 105, 115], 45) := by decide +kernel
theorem dX11_of_60 : decode cX11_of 60 = .ok (.aload_n 0, 1) := by decide +kernel
theorem dX11_of_61 : decode cX11_of 61 = .ok (.getfield 19, 3) := by decide +kernel
theorem dX11_of_64 : decode cX11_of 64 = .ok (.getfield 148, 3) := by decide +kernel
theorem dX11_of_67 : decode cX11_of 67 = .ok (.iload_n 1, 1) := by decide +kernel
theorem dX11_of_68 : decode cX11_of 68 = .ok (.iaload, 1) := by decide +kernel
theorem dX11_of_69 : decode cX11_of 69 = .ok (.ireturn, 1) := by decide +kernel
theorem dX11_of_70 : decode cX11_of 70 = .ok (.aload_n 0, 1) := by decide +kernel
theorem dX11_of_71 : decode cX11_of 71 = .ok (.getfield 19, 3) := by decide +kernel
theorem dX11_of_74 : decode cX11_of 74 = .ok (.getfield 151, 3) := by decide +kernel
theorem dX11_of_77 : decode cX11_of 77 = .ok (.iload_n 1, 1) := by decide +kernel
theorem dX11_of_78 : decode cX11_of 78 = .ok (.iaload, 1) := by decide +kernel
theorem dX11_of_79 : decode cX11_of 79 = .ok (.ireturn, 1) := by decide +kernel
theorem dX11_of_80 : decode cX11_of 80 = .ok (.aload_n 0, 1) := by decide +kernel
theorem dX11_of_81 : decode cX11_of 81 = .ok (.getfield 19, 3) := by decide +kernel
theorem dX11_of_84 : decode cX11_of 84 = .ok (.getfield 167, 3) := by decide +kernel
theorem dX11_of_87 : decode cX11_of 87 = .ok (.iload_n 1, 1) := by decide +kernel
theorem dX11_of_88 : decode cX11_of 88 = .ok (.iaload, 1) := by decide +kernel
theorem dX11_of_89 : decode cX11_of 89 = .ok (.ireturn, 1) := by decide +kernel
theorem dX11_of_90 : decode cX11_of 90 = .ok (.aload_n 0, 1) := by decide +kernel
theorem dX11_of_91 : decode cX11_of 91 = .ok (.getfield 19, 3) := by decide +kernel
theorem dX11_of_94 : decode cX11_of 94 = .ok (.getfield 259, 3) := by decide +kernel
theorem dX11_of_97 : decode cX11_of 97 = .ok (.iload_n 1, 1) := by decide +kernel
theorem dX11_of_98 : decode cX11_of 98 = .ok (.iaload, 1) := by decide +kernel
theorem dX11_of_99 : decode cX11_of 99 = .ok (.ireturn, 1) := by decide +kernel
theorem dX11_of_100 : decode cX11_of 100 = .ok (.aload_n 0, 1) := by decide +kernel
theorem dX11_of_101 : decode cX11_of 101 = .ok (.getfield 19, 3) := by decide +kernel
theorem dX11_of_104 : decode cX11_of 104 = .ok (.getfield 262, 3) := by decide +kernel
theorem dX11_of_107 : decode cX11_of 107 = .ok (.iload_n 1, 1) := by decide +kernel
theorem dX11_of_108 : decode cX11_of 108 = .ok (.iaload, 1) := by decide +kernel
theorem dX11_of_109 : decode cX11_of 109 = .ok (.ireturn, 1) := by decide +kernel
theorem dX11_of_110 : decode cX11_of 110 = .ok (.aload_n 0, 1) := by decide +kernel
theorem dX11_of_111 : decode cX11_of 111 = .ok (.getfield 19, 3) := by decide +kernel
theorem dX11_of_114 : decode cX11_of 114 = .ok (.getfield 265, 3) := by decide +kernel
theorem dX11_of_117 : decode cX11_of 117 = .ok (.iload_n 1, 1) := by decide +kernel
theorem dX11_of_118 : decode cX11_of 118 = .ok (.iaload, 1) := by decide +kernel
theorem dX11_of_119 : decode cX11_of 119 = .ok (.ireturn, 1) := by decide +kernel
theorem dX11_of_120 : decode cX11_of 120 = .ok (.aload_n 0, 1) := by decide +kernel
theorem dX11_of_121 : decode cX11_of 121 = .ok (.getfield 19, 3) := by decide +kernel
theorem dX11_of_124 : decode cX11_of 124 = .ok (.getfield 268, 3) := by decide +kernel
theorem dX11_of_127 : decode cX11_of 127 = .ok (.iload_n 1, 1) := by decide +kernel
theorem dX11_of_128 : decode cX11_of 128 = .ok (.iaload, 1) := by decide +kernel
theorem dX11_of_129 : decode cX11_of 129 = .ok (.ireturn, 1) := by decide +kernel
theorem dX11_of_130 : decode cX11_of 130 = .ok (.aload_n 0, 1) := by decide +kernel
theorem dX11_of_131 : decode cX11_of 131 = .ok (.getfield 19, 3) := by decide +kernel
theorem dX11_of_134 : decode cX11_of 134 = .ok (.getfield 167, 3) := by decide +kernel
theorem dX11_of_137 : decode cX11_of 137 = .ok (.iload_n 1, 1) := by decide +kernel
theorem dX11_of_138 : decode cX11_of 138 = .ok (.iaload, 1) := by decide +kernel
theorem dX11_of_139 : decode cX11_of 139 = .ok (.iconst (-1), 1) := by decide +kernel
theorem dX11_of_140 : decode cX11_of 140 = .ok (.if_icmp .ne 7, 3) := by decide +kernel
theorem dX11_of_143 : decode cX11_of 143 = .ok (.iconst (-1), 1) := by decide +kernel
theorem dX11_of_144 : decode cX11_of 144 = .ok (.goto 23, 3) := by decide +kernel
theorem dX11_of_147 : decode cX11_of 147 = .ok (.aload_n 0, 1) := by decide +kernel
theorem dX11_of_148 : decode cX11_of 148 = .ok (.getfield 60, 3) := by decide +kernel
theorem dX11_of_151 : decode cX11_of 151 = .ok (.sipush 260, 3) := by decide +kernel
theorem dX11_of_154 : decode cX11_of 154 = .ok (.iload_n 1, 1) := by decide +kernel
theorem dX11_of_155 : decode cX11_of 155 = .ok (.aload_n 0, 1) := by decide +kernel
theorem dX11_of_156 : decode cX11_of 156 = .ok (.getfield 19, 3) := by decide +kernel
theorem dX11_of_159 : decode cX11_of 159 = .ok (.getfield 167, 3) := by decide +kernel
theorem dX11_of_162 : decode cX11_of 162 = .ok (.iload_n 1, 1) := by decide +kernel
theorem dX11_of_163 : decode cX11_of 163 = .ok (.iaload, 1) := by decide +kernel
theorem dX11_of_164 : decode cX11_of 164 = .ok (.invokevirtual 252, 3) := by decide +kernel
theorem dX11_of_167 : decode cX11_of 167 = .ok (.ireturn, 1) := by decide +kernel
theorem dX11_of_168 : decode cX11_of 168 = .ok (.bipush (-2), 2) := by decide +kernel
theorem dX11_of_170 : decode cX11_of 170 = .ok (.ireturn, 1) := by decide +kernel
theorem dX11_hears_0 : decode cX11_hears 0 = .ok (.aload_n 0, 1) := by decide +kernel
theorem dX11_hears_1 : decode cX11_hears 1 = .ok (.getfield 19, 3) := by decide +kernel
theorem dX11_hears_4 : decode cX11_hears 4 = .ok (.iload_n 1, 1) := by decide +kernel
theorem dX11_hears_5 : decode cX11_hears 5 = .ok (.invokevirtual 142, 3) := by decide +kernel
theorem dX11_hears_8 : decode cX11_hears 8 = .ok (.ifCond .eq 14, 3) := by decide +kernel
theorem dX11_hears_11 : decode cX11_hears 11 = .ok (.aload_n 0, 1) := by decide +kernel
theorem dX11_hears_12 : decode cX11_hears 12 = .ok (.getfield 19, 3) := by decide +kernel
theorem dX11_hears_15 : decode cX11_hears 15 = .ok (.iload_n 2, 1) := by decide +kernel
theorem dX11_hears_16 : decode cX11_hears 16 = .ok (.invokevirtual 134, 3) := by decide +kernel
theorem dX11_hears_19 : decode cX11_hears 19 = .ok (.ifCond .ne 5, 3) := by decide +kernel
theorem dX11_hears_22 : decode cX11_hears 22 = .ok (.iconst (-1), 1) := by decide +kernel
theorem dX11_hears_23 : decode cX11_hears 23 = .ok (.ireturn, 1) := by decide +kernel
theorem dX11_hears_24 : decode cX11_hears 24 = .ok (.aload_n 0, 1) := by decide +kernel
theorem dX11_hears_25 : decode cX11_hears 25 = .ok (.getfield 60, 3) := by decide +kernel
theorem dX11_hears_28 : decode cX11_hears 28 = .ok (.sipush 261, 3) := by decide +kernel
theorem dX11_hears_31 : decode cX11_hears 31 = .ok (.iload_n 1, 1) := by decide +kernel
theorem dX11_hears_32 : decode cX11_hears 32 = .ok (.iload_n 2, 1) := by decide +kernel
theorem dX11_hears_33 : decode cX11_hears 33 = .ok (.invokevirtual 252, 3) := by decide +kernel
theorem dX11_hears_36 : decode cX11_hears 36 = .ok (.ireturn, 1) := by decide +kernel
theorem dX11_book_0 : decode cX11_book 0 = .ok (.aload_n 0, 1) := by decide +kernel
theorem dX11_book_1 : decode cX11_book 1 = .ok (.getfield 35, 3) := by decide +kernel
theorem dX11_book_4 : decode cX11_book 4 = .ok (.iload_n 1, 1) := by decide +kernel
theorem dX11_book_5 : decode cX11_book 5 = .ok (.iload_n 2, 1) := by decide +kernel
theorem dX11_book_6 : decode cX11_book 6 = .ok (.invokevirtual 271, 3) := by decide +kernel
theorem dX11_book_9 : decode cX11_book 9 = .ok (.ireturn, 1) := by decide +kernel
theorem dX11_goes_0 : decode cX11_goes 0 = .ok (.iload_n 1, 1) := by decide +kernel
theorem dX11_goes_1 : decode cX11_goes 1 = .ok (.iconst 1, 1) := by decide +kernel
theorem dX11_goes_2 : decode cX11_goes 2 = .ok (.bipush 60, 2) := by decide +kernel
theorem dX11_goes_4 : decode cX11_goes 4 = .ok (.invokestatic 117, 3) := by decide +kernel
theorem dX11_goes_7 : decode cX11_goes 7 = .ok (.ifCond .eq 12, 3) := by decide +kernel
theorem dX11_goes_10 : decode cX11_goes 10 = .ok (.iload_n 2, 1) := by decide +kernel
theorem dX11_goes_11 : decode cX11_goes 11 = .ok (.iconst 0, 1) := by decide +kernel
theorem dX11_goes_12 : decode cX11_goes 12 = .ok (.iconst 3, 1) := by decide +kernel
theorem dX11_goes_13 : decode cX11_goes 13 = .ok (.invokestatic 117, 3) := by decide +kernel
theorem dX11_goes_16 : decode cX11_goes 16 = .ok (.ifCond .ne 5, 3) := by decide +kernel
theorem dX11_goes_19 : decode cX11_goes 19 = .ok (.iconst (-1), 1) := by decide +kernel
theorem dX11_goes_20 : decode cX11_goes 20 = .ok (.ireturn, 1) := by decide +kernel
theorem dX11_goes_21 : decode cX11_goes 21 = .ok (.aload_n 0, 1) := by decide +kernel
theorem dX11_goes_22 : decode cX11_goes 22 = .ok (.getfield 94, 3) := by decide +kernel
theorem dX11_goes_25 : decode cX11_goes 25 = .ok (.aload_n 0, 1) := by decide +kernel
theorem dX11_goes_26 : decode cX11_goes 26 = .ok (.getfield 19, 3) := by decide +kernel
theorem dX11_goes_29 : decode cX11_goes 29 = .ok (.invokevirtual 274, 3) := by decide +kernel
theorem dX11_goes_32 : decode cX11_goes 32 = .ok (.iconst 0, 1) := by decide +kernel
theorem dX11_goes_33 : decode cX11_goes 33 = .ok (.istore_n 3, 1) := by decide +kernel
theorem dX11_goes_34 : decode cX11_goes 34 = .ok (.iload_n 3, 1) := by decide +kernel
theorem dX11_goes_35 : decode cX11_goes 35 = .ok (.iload_n 1, 1) := by decide +kernel
theorem dX11_goes_36 : decode cX11_goes 36 = .ok (.if_icmp .ge 18, 3) := by decide +kernel
theorem dX11_goes_39 : decode cX11_goes 39 = .ok (.aload_n 0, 1) := by decide +kernel
theorem dX11_goes_40 : decode cX11_goes 40 = .ok (.getfield 69, 3) := by decide +kernel
theorem dX11_goes_43 : decode cX11_goes 43 = .ok (.iconst 1, 1) := by decide +kernel
theorem dX11_goes_44 : decode cX11_goes 44 = .ok (.invokevirtual 201, 3) := by decide +kernel
theorem dX11_goes_47 : decode cX11_goes 47 = .ok (.pop, 1) := by decide +kernel
theorem dX11_goes_48 : decode cX11_goes 48 = .ok (.iinc 3 1, 3) := by decide +kernel
theorem dX11_goes_51 : decode cX11_goes 51 = .ok (.goto (-17), 3) := by decide +kernel
theorem dX11_goes_54 : decode cX11_goes 54 = .ok (.aload_n 0, 1) := by decide +kernel
theorem dX11_goes_55 : decode cX11_goes 55 = .ok (.getfield 19, 3) := by decide +kernel
theorem dX11_goes_58 : decode cX11_goes 58 = .ok (.iload_n 2, 1) := by decide +kernel
theorem dX11_goes_59 : decode cX11_goes 59 = .ok (.invokevirtual 277, 3) := by decide +kernel
theorem dX11_goes_62 : decode cX11_goes 62 = .ok (.istore_n 3, 1) := by decide +kernel
theorem dX11_goes_63 : decode cX11_goes 63 = .ok (.aload_n 0, 1) := by decide +kernel
theorem dX11_goes_64 : decode cX11_goes 64 = .ok (.getfield 19, 3) := by decide +kernel
theorem dX11_goes_67 : decode cX11_goes 67 = .ok (.aload_n 0, 1) := by decide +kernel
theorem dX11_goes_68 : decode cX11_goes 68 = .ok (.getfield 94, 3) := by decide +kernel
theorem dX11_goes_71 : decode cX11_goes 71 = .ok (.invokevirtual 274, 3) := by decide +kernel
theorem dX11_goes_74 : decode cX11_goes 74 = .ok (.iload_n 3, 1) := by decide +kernel
theorem dX11_goes_75 : decode cX11_goes 75 = .ok (.ireturn, 1) := by decide +kernel
theorem dX11_soonest_0 : decode cX11_soonest 0 = .ok (.aload_n 0, 1) := by decide +kernel
theorem dX11_soonest_1 : decode cX11_soonest 1 = .ok (.getfield 19, 3) := by decide +kernel
theorem dX11_soonest_4 : decode cX11_soonest 4 = .ok (.iload_n 1, 1) := by decide +kernel
theorem dX11_soonest_5 : decode cX11_soonest 5 = .ok (.invokevirtual 142, 3) := by decide +kernel
theorem dX11_soonest_8 : decode cX11_soonest 8 = .ok (.ifCond .ne 5, 3) := by decide +kernel
theorem dX11_soonest_11 : decode cX11_soonest 11 = .ok (.iconst (-1), 1) := by decide +kernel
theorem dX11_soonest_12 : decode cX11_soonest 12 = .ok (.ireturn, 1) := by decide +kernel
theorem dX11_soonest_13 : decode cX11_soonest 13 = .ok (.aload_n 0, 1) := by decide +kernel
theorem dX11_soonest_14 : decode cX11_soonest 14 = .ok (.getfield 94, 3) := by decide +kernel
theorem dX11_soonest_17 : decode cX11_soonest 17 = .ok (.aload_n 0, 1) := by decide +kernel
theorem dX11_soonest_18 : decode cX11_soonest 18 = .ok (.getfield 19, 3) := by decide +kernel
theorem dX11_soonest_21 : decode cX11_soonest 21 = .ok (.invokevirtual 274, 3) := by decide +kernel
theorem dX11_soonest_24 : decode cX11_soonest 24 = .ok (.iconst 0, 1) := by decide +kernel
theorem dX11_soonest_25 : decode cX11_soonest 25 = .ok (.istore_n 2, 1) := by decide +kernel
theorem dX11_soonest_26 : decode cX11_soonest 26 = .ok (.aload_n 0, 1) := by decide +kernel
theorem dX11_soonest_27 : decode cX11_soonest 27 = .ok (.getfield 19, 3) := by decide +kernel
theorem dX11_soonest_30 : decode cX11_soonest 30 = .ok (.getfield 268, 3) := by decide +kernel
theorem dX11_soonest_33 : decode cX11_soonest 33 = .ok (.iload_n 1, 1) := by decide +kernel
theorem dX11_soonest_34 : decode cX11_soonest 34 = .ok (.iaload, 1) := by decide +kernel
theorem dX11_soonest_35 : decode cX11_soonest 35 = .ok (.iconst (-1), 1) := by decide +kernel
theorem dX11_soonest_36 : decode cX11_soonest 36 = .ok (.if_icmp .ne 24, 3) := by decide +kernel
theorem dX11_soonest_39 : decode cX11_soonest 39 = .ok (.iload_n 2, 1) := by decide +kernel
theorem dX11_soonest_40 : decode cX11_soonest 40 = .ok (.bipush 60, 2) := by decide +kernel
theorem dX11_soonest_42 : decode cX11_soonest 42 = .ok (.if_icmp .ge 18, 3) := by decide +kernel
theorem dX11_soonest_45 : decode cX11_soonest 45 = .ok (.aload_n 0, 1) := by decide +kernel
theorem dX11_soonest_46 : decode cX11_soonest 46 = .ok (.getfield 69, 3) := by decide +kernel
theorem dX11_soonest_49 : decode cX11_soonest 49 = .ok (.iconst 1, 1) := by decide +kernel
theorem dX11_soonest_50 : decode cX11_soonest 50 = .ok (.invokevirtual 201, 3) := by decide +kernel
theorem dX11_soonest_53 : decode cX11_soonest 53 = .ok (.pop, 1) := by decide +kernel
theorem dX11_soonest_54 : decode cX11_soonest 54 = .ok (.iinc 2 1, 3) := by decide +kernel
theorem dX11_soonest_57 : decode cX11_soonest 57 = .ok (.goto (-31), 3) := by decide +kernel
theorem dX11_soonest_60 : decode cX11_soonest 60 = .ok (.aload_n 0, 1) := by decide +kernel
theorem dX11_soonest_61 : decode cX11_soonest 61 = .ok (.getfield 19, 3) := by decide +kernel
theorem dX11_soonest_64 : decode cX11_soonest 64 = .ok (.getfield 268, 3) := by decide +kernel
theorem dX11_soonest_67 : decode cX11_soonest 67 = .ok (.iload_n 1, 1) := by decide +kernel
theorem dX11_soonest_68 : decode cX11_soonest 68 = .ok (.iaload, 1) := by decide +kernel
theorem dX11_soonest_69 : decode cX11_soonest 69 = .ok (.iconst (-1), 1) := by decide +kernel
theorem dX11_soonest_70 : decode cX11_soonest 70 = .ok (.if_icmp .eq 7, 3) := by decide +kernel
theorem dX11_soonest_73 : decode cX11_soonest 73 = .ok (.iconst 1, 1) := by decide +kernel
theorem dX11_soonest_74 : decode cX11_soonest 74 = .ok (.goto 4, 3) := by decide +kernel
theorem dX11_soonest_77 : decode cX11_soonest 77 = .ok (.iconst 0, 1) := by decide +kernel
theorem dX11_soonest_78 : decode cX11_soonest 78 = .ok (.istore_n 3, 1) := by decide +kernel
theorem dX11_soonest_79 : decode cX11_soonest 79 = .ok (.aload_n 0, 1) := by decide +kernel
theorem dX11_soonest_80 : decode cX11_soonest 80 = .ok (.getfield 19, 3) := by decide +kernel
theorem dX11_soonest_83 : decode cX11_soonest 83 = .ok (.aload_n 0, 1) := by decide +kernel
theorem dX11_soonest_84 : decode cX11_soonest 84 = .ok (.getfield 94, 3) := by decide +kernel
theorem dX11_soonest_87 : decode cX11_soonest 87 = .ok (.invokevirtual 274, 3) := by decide +kernel
theorem dX11_soonest_90 : decode cX11_soonest 90 = .ok (.iload_n 3, 1) := by decide +kernel
theorem dX11_soonest_91 : decode cX11_soonest 91 = .ok (.ifCond .eq 7, 3) := by decide +kernel
theorem dX11_soonest_94 : decode cX11_soonest 94 = .ok (.iload_n 2, 1) := by decide +kernel
theorem dX11_soonest_95 : decode cX11_soonest 95 = .ok (.goto 4, 3) := by decide +kernel
theorem dX11_soonest_98 : decode cX11_soonest 98 = .ok (.iconst (-1), 1) := by decide +kernel
theorem dX11_soonest_99 : decode cX11_soonest 99 = .ok (.ireturn, 1) := by decide +kernel
theorem dX11_wishes_0 : decode cX11_wishes 0 = .ok (.iload_n 1, 1) := by decide +kernel
theorem dX11_wishes_1 : decode cX11_wishes 1 = .ok (.iconst 0, 1) := by decide +kernel
theorem dX11_wishes_2 : decode cX11_wishes 2 = .ok (.iconst 1, 1) := by decide +kernel
theorem dX11_wishes_3 : decode cX11_wishes 3 = .ok (.invokestatic 117, 3) := by decide +kernel
theorem dX11_wishes_6 : decode cX11_wishes 6 = .ok (.ifCond .eq 29, 3) := by decide +kernel
theorem dX11_wishes_9 : decode cX11_wishes 9 = .ok (.iload_n 2, 1) := by decide +kernel
theorem dX11_wishes_10 : decode cX11_wishes 10 = .ok (.iconst 0, 1) := by decide +kernel
theorem dX11_wishes_11 : decode cX11_wishes 11 = .ok (.iconst 4, 1) := by decide +kernel
theorem dX11_wishes_12 : decode cX11_wishes 12 = .ok (.invokestatic 117, 3) := by decide +kernel
theorem dX11_wishes_15 : decode cX11_wishes 15 = .ok (.ifCond .eq 20, 3) := by decide +kernel
theorem dX11_wishes_18 : decode cX11_wishes 18 = .ok (.aload_n 0, 1) := by decide +kernel
theorem dX11_wishes_19 : decode cX11_wishes 19 = .ok (.getfield 81, 3) := by decide +kernel
theorem dX11_wishes_22 : decode cX11_wishes 22 = .ok (.iload_n 1, 1) := by decide +kernel
theorem dX11_wishes_23 : decode cX11_wishes 23 = .ok (.iload_n 2, 1) := by decide +kernel
theorem dX11_wishes_24 : decode cX11_wishes 24 = .ok (.iload_n 3, 1) := by decide +kernel
theorem dX11_wishes_25 : decode cX11_wishes 25 = .ok (.invokevirtual 280, 3) := by decide +kernel
theorem dX11_wishes_28 : decode cX11_wishes 28 = .ok (.ifCond .eq 7, 3) := by decide +kernel
theorem dX11_wishes_31 : decode cX11_wishes 31 = .ok (.iconst 1, 1) := by decide +kernel
theorem dX11_wishes_32 : decode cX11_wishes 32 = .ok (.goto 4, 3) := by decide +kernel
theorem dX11_wishes_35 : decode cX11_wishes 35 = .ok (.iconst 0, 1) := by decide +kernel
theorem dX11_wishes_36 : decode cX11_wishes 36 = .ok (.ireturn, 1) := by decide +kernel
theorem dX11_matched_0 : decode cX11_matched 0 = .ok (.iload_n 1, 1) := by decide +kernel
theorem dX11_matched_1 : decode cX11_matched 1 = .ok (.iconst (-1), 1) := by decide +kernel
theorem dX11_matched_2 : decode cX11_matched 2 = .ok (.if_icmp .ne 11, 3) := by decide +kernel
theorem dX11_matched_5 : decode cX11_matched 5 = .ok (.aload_n 0, 1) := by decide +kernel
theorem dX11_matched_6 : decode cX11_matched 6 = .ok (.getfield 81, 3) := by decide +kernel
theorem dX11_matched_9 : decode cX11_matched 9 = .ok (.invokevirtual 283, 3) := by decide +kernel
theorem dX11_matched_12 : decode cX11_matched 12 = .ok (.ireturn, 1) := by decide +kernel
theorem dX11_matched_13 : decode cX11_matched 13 = .ok (.iload_n 1, 1) := by decide +kernel
theorem dX11_matched_14 : decode cX11_matched 14 = .ok (.iconst 0, 1) := by decide +kernel
theorem dX11_matched_15 : decode cX11_matched 15 = .ok (.iconst 1, 1) := by decide +kernel
theorem dX11_matched_16 : decode cX11_matched 16 = .ok (.invokestatic 117, 3) := by decide +kernel
theorem dX11_matched_19 : decode cX11_matched 19 = .ok (.ifCond .eq 21, 3) := by decide +kernel
theorem dX11_matched_22 : decode cX11_matched 22 = .ok (.iload_n 2, 1) := by decide +kernel
theorem dX11_matched_23 : decode cX11_matched 23 = .ok (.iconst 0, 1) := by decide +kernel
theorem dX11_matched_24 : decode cX11_matched 24 = .ok (.iconst 4, 1) := by decide +kernel
theorem dX11_matched_25 : decode cX11_matched 25 = .ok (.invokestatic 117, 3) := by decide +kernel
theorem dX11_matched_28 : decode cX11_matched 28 = .ok (.ifCond .eq 12, 3) := by decide +kernel
theorem dX11_matched_31 : decode cX11_matched 31 = .ok (.iload_n 3, 1) := by decide +kernel
theorem dX11_matched_32 : decode cX11_matched 32 = .ok (.iconst 0, 1) := by decide +kernel
theorem dX11_matched_33 : decode cX11_matched 33 = .ok (.iconst 1, 1) := by decide +kernel
theorem dX11_matched_34 : decode cX11_matched 34 = .ok (.invokestatic 117, 3) := by decide +kernel
theorem dX11_matched_37 : decode cX11_matched 37 = .ok (.ifCond .ne 5, 3) := by decide +kernel
theorem dX11_matched_40 : decode cX11_matched 40 = .ok (.iconst (-1), 1) := by decide +kernel
theorem dX11_matched_41 : decode cX11_matched 41 = .ok (.ireturn, 1) := by decide +kernel
theorem dX11_matched_42 : decode cX11_matched 42 = .ok (.aload_n 0, 1) := by decide +kernel
theorem dX11_matched_43 : decode cX11_matched 43 = .ok (.getfield 81, 3) := by decide +kernel
theorem dX11_matched_46 : decode cX11_matched 46 = .ok (.iload_n 1, 1) := by decide +kernel
theorem dX11_matched_47 : decode cX11_matched 47 = .ok (.iload_n 2, 1) := by decide +kernel
theorem dX11_matched_48 : decode cX11_matched 48 = .ok (.iload_n 3, 1) := by decide +kernel
theorem dX11_matched_49 : decode cX11_matched 49 = .ok (.invokevirtual 286, 3) := by decide +kernel
theorem dX11_matched_52 : decode cX11_matched 52 = .ok (.ireturn, 1) := by decide +kernel
theorem dX11_chair_0 : decode cX11_chair 0 = .ok (.iload_n 1, 1) := by decide +kernel
theorem dX11_chair_1 : decode cX11_chair 1 = .ok (.iconst (-1), 1) := by decide +kernel
theorem dX11_chair_2 : decode cX11_chair 2 = .ok (.if_icmp .ne 14, 3) := by decide +kernel
theorem dX11_chair_5 : decode cX11_chair 5 = .ok (.aload_n 0, 1) := by decide +kernel
theorem dX11_chair_6 : decode cX11_chair 6 = .ok (.getfield 26, 3) := by decide +kernel
theorem dX11_chair_9 : decode cX11_chair 9 = .ok (.getfield 289, 3) := by decide +kernel
theorem dX11_chair_12 : decode cX11_chair 12 = .ok (.invokevirtual 292, 3) := by decide +kernel
theorem dX11_chair_15 : decode cX11_chair 15 = .ok (.ireturn, 1) := by decide +kernel
theorem dX11_chair_16 : decode cX11_chair 16 = .ok (.iload_n 1, 1) := by decide +kernel
theorem dX11_chair_17 : decode cX11_chair 17 = .ok (.iconst 1, 1) := by decide +kernel
theorem dX11_chair_18 : decode cX11_chair 18 = .ok (.bipush 30, 2) := by decide +kernel
theorem dX11_chair_20 : decode cX11_chair 20 = .ok (.invokestatic 117, 3) := by decide +kernel
theorem dX11_chair_23 : decode cX11_chair 23 = .ok (.ifCond .eq 12, 3) := by decide +kernel
theorem dX11_chair_26 : decode cX11_chair 26 = .ok (.iload_n 2, 1) := by decide +kernel
theorem dX11_chair_27 : decode cX11_chair 27 = .ok (.ifCond .lt 8, 3) := by decide +kernel
theorem dX11_chair_30 : decode cX11_chair 30 = .ok (.iload_n 2, 1) := by decide +kernel
theorem dX11_chair_31 : decode cX11_chair 31 = .ok (.iload_n 1, 1) := by decide +kernel
theorem dX11_chair_32 : decode cX11_chair 32 = .ok (.if_icmp .lt 5, 3) := by decide +kernel
theorem dX11_chair_35 : decode cX11_chair 35 = .ok (.iconst (-1), 1) := by decide +kernel
theorem dX11_chair_36 : decode cX11_chair 36 = .ok (.ireturn, 1) := by decide +kernel
theorem dX11_chair_37 : decode cX11_chair 37 = .ok (.aload_n 0, 1) := by decide +kernel
theorem dX11_chair_38 : decode cX11_chair 38 = .ok (.getfield 26, 3) := by decide +kernel
theorem dX11_chair_41 : decode cX11_chair 41 = .ok (.getfield 289, 3) := by decide +kernel
theorem dX11_chair_44 : decode cX11_chair 44 = .ok (.iload_n 1, 1) := by decide +kernel
theorem dX11_chair_45 : decode cX11_chair 45 = .ok (.iload_n 2, 1) := by decide +kernel
theorem dX11_chair_46 : decode cX11_chair 46 = .ok (.iconst 0, 1) := by decide +kernel
theorem dX11_chair_47 : decode cX11_chair 47 = .ok (.iconst 0, 1) := by decide +kernel
theorem dX11_chair_48 : decode cX11_chair 48 = .ok (.iconst 0, 1) := by decide +kernel
theorem dX11_chair_49 : decode cX11_chair 49 = .ok (.invokevirtual 295, 3) := by decide +kernel
theorem dX11_chair_52 : decode cX11_chair 52 = .ok (.ireturn, 1) := by decide +kernel
theorem dX11_rocks_0 : decode cX11_rocks 0 = .ok (.iload_n 1, 1) := by decide +kernel
theorem dX11_rocks_1 : decode cX11_rocks 1 = .ok (.ifCond .ne 11, 3) := by decide +kernel
theorem dX11_rocks_4 : decode cX11_rocks 4 = .ok (.aload_n 0, 1) := by decide +kernel
theorem dX11_rocks_5 : decode cX11_rocks 5 = .ok (.getfield 90, 3) := by decide +kernel
theorem dX11_rocks_8 : decode cX11_rocks 8 = .ok (.invokevirtual 299, 3) := by decide +kernel
theorem dX11_rocks_11 : decode cX11_rocks 11 = .ok (.ireturn, 1) := by decide +kernel
theorem dX11_rocks_12 : decode cX11_rocks 12 = .ok (.iload_n 1, 1) := by decide +kernel
theorem dX11_rocks_13 : decode cX11_rocks 13 = .ok (.iconst 1, 1) := by decide +kernel
theorem dX11_rocks_14 : decode cX11_rocks 14 = .ok (.if_icmp .ne 13, 3) := by decide +kernel
theorem dX11_rocks_17 : decode cX11_rocks 17 = .ok (.aload_n 0, 1) := by decide +kernel
theorem dX11_rocks_18 : decode cX11_rocks 18 = .ok (.getfield 90, 3) := by decide +kernel
theorem dX11_rocks_21 : decode cX11_rocks 21 = .ok (.invokevirtual 302, 3) := by decide +kernel
theorem dX11_rocks_24 : decode cX11_rocks 24 = .ok (.goto 4, 3) := by decide +kernel
theorem dX11_rocks_27 : decode cX11_rocks 27 = .ok (.iconst (-1), 1) := by decide +kernel
theorem dX11_rocks_28 : decode cX11_rocks 28 = .ok (.ireturn, 1) := by decide +kernel
theorem dX11_cat_0 : decode cX11_cat 0 = .ok (.iload_n 1, 1) := by decide +kernel
theorem dX11_cat_1 : decode cX11_cat 1 = .ok (.iconst (-1), 1) := by decide +kernel
theorem dX11_cat_2 : decode cX11_cat 2 = .ok (.if_icmp .ne 14, 3) := by decide +kernel
theorem dX11_cat_5 : decode cX11_cat 5 = .ok (.aload_n 0, 1) := by decide +kernel
theorem dX11_cat_6 : decode cX11_cat 6 = .ok (.getfield 26, 3) := by decide +kernel
theorem dX11_cat_9 : decode cX11_cat 9 = .ok (.getfield 305, 3) := by decide +kernel
theorem dX11_cat_12 : decode cX11_cat 12 = .ok (.invokevirtual 292, 3) := by decide +kernel
theorem dX11_cat_15 : decode cX11_cat 15 = .ok (.ireturn, 1) := by decide +kernel
theorem dX11_cat_16 : decode cX11_cat 16 = .ok (.iload_n 1, 1) := by decide +kernel
theorem dX11_cat_17 : decode cX11_cat 17 = .ok (.iconst 0, 1) := by decide +kernel
theorem dX11_cat_18 : decode cX11_cat 18 = .ok (.bipush 7, 2) := by decide +kernel
theorem dX11_cat_20 : decode cX11_cat 20 = .ok (.invokestatic 117, 3) := by decide +kernel
theorem dX11_cat_23 : decode cX11_cat 23 = .ok (.ifCond .eq 24, 3) := by decide +kernel
theorem dX11_cat_26 : decode cX11_cat 26 = .ok (.iload_n 2, 1) := by decide +kernel
theorem dX11_cat_27 : decode cX11_cat 27 = .ok (.iconst 0, 1) := by decide +kernel
theorem dX11_cat_28 : decode cX11_cat 28 = .ok (.bipush 7, 2) := by decide +kernel
theorem dX11_cat_30 : decode cX11_cat 30 = .ok (.invokestatic 117, 3) := by decide +kernel
theorem dX11_cat_33 : decode cX11_cat 33 = .ok (.ifCond .eq 14, 3) := by decide +kernel
theorem dX11_cat_36 : decode cX11_cat 36 = .ok (.iload_n 3, 1) := by decide +kernel
theorem dX11_cat_37 : decode cX11_cat 37 = .ok (.iconst 0, 1) := by decide +kernel
theorem dX11_cat_38 : decode cX11_cat 38 = .ok (.sipush 9999, 3) := by decide +kernel
theorem dX11_cat_41 : decode cX11_cat 41 = .ok (.invokestatic 117, 3) := by decide +kernel
theorem dX11_cat_44 : decode cX11_cat 44 = .ok (.ifCond .ne 5, 3) := by decide +kernel
theorem dX11_cat_47 : decode cX11_cat 47 = .ok (.iconst (-1), 1) := by decide +kernel
theorem dX11_cat_48 : decode cX11_cat 48 = .ok (.ireturn, 1) := by decide +kernel
theorem dX11_cat_49 : decode cX11_cat 49 = .ok (.iload_n 3, 1) := by decide +kernel
theorem dX11_cat_50 : decode cX11_cat 50 = .ok (.bipush 100, 2) := by decide +kernel
theorem dX11_cat_52 : decode cX11_cat 52 = .ok (.idiv, 1) := by decide +kernel
theorem dX11_cat_53 : decode cX11_cat 53 = .ok (.istore 4, 2) := by decide +kernel
theorem dX11_cat_55 : decode cX11_cat 55 = .ok (.iload_n 3, 1) := by decide +kernel
theorem dX11_cat_56 : decode cX11_cat 56 = .ok (.bipush 100, 2) := by decide +kernel
theorem dX11_cat_58 : decode cX11_cat 58 = .ok (.irem, 1) := by decide +kernel
theorem dX11_cat_59 : decode cX11_cat 59 = .ok (.istore 5, 2) := by decide +kernel
theorem dX11_cat_61 : decode cX11_cat 61 = .ok (.iload 5, 2) := by decide +kernel
theorem dX11_cat_63 : decode cX11_cat 63 = .ok (.iload 4, 2) := by decide +kernel
theorem dX11_cat_65 : decode cX11_cat 65 = .ok (.if_icmp .le 23, 3) := by decide +kernel
theorem dX11_cat_68 : decode cX11_cat 68 = .ok (.aload_n 0, 1) := by decide +kernel
theorem dX11_cat_69 : decode cX11_cat 69 = .ok (.getfield 26, 3) := by decide +kernel
theorem dX11_cat_72 : decode cX11_cat 72 = .ok (.getfield 305, 3) := by decide +kernel
theorem dX11_cat_75 : decode cX11_cat 75 = .ok (.iload_n 1, 1) := by decide +kernel
theorem dX11_cat_76 : decode cX11_cat 76 = .ok (.iload_n 2, 1) := by decide +kernel
theorem dX11_cat_77 : decode cX11_cat 77 = .ok (.iload 4, 2) := by decide +kernel
theorem dX11_cat_79 : decode cX11_cat 79 = .ok (.iload 5, 2) := by decide +kernel
theorem dX11_cat_81 : decode cX11_cat 81 = .ok (.iconst 0, 1) := by decide +kernel
theorem dX11_cat_82 : decode cX11_cat 82 = .ok (.invokevirtual 295, 3) := by decide +kernel
theorem dX11_cat_85 : decode cX11_cat 85 = .ok (.goto 4, 3) := by decide +kernel
theorem dX11_cat_88 : decode cX11_cat 88 = .ok (.iconst (-1), 1) := by decide +kernel
theorem dX11_cat_89 : decode cX11_cat 89 = .ok (.ireturn, 1) := by decide +kernel
theorem dX11_reply_0 : decode cX11_reply 0 = .ok (.iload_n 1, 1) := by decide +kernel
theorem dX11_reply_1 : decode cX11_reply 1 = .ok (.iconst 0, 1) := by decide +kernel
theorem dX11_reply_2 : decode cX11_reply 2 = .ok (.bipush 7, 2) := by decide +kernel
theorem dX11_reply_4 : decode cX11_reply 4 = .ok (.invokestatic 117, 3) := by decide +kernel
theorem dX11_reply_7 : decode cX11_reply 7 = .ok (.ifCond .eq 23, 3) := by decide +kernel
theorem dX11_reply_10 : decode cX11_reply 10 = .ok (.iload_n 2, 1) := by decide +kernel
theorem dX11_reply_11 : decode cX11_reply 11 = .ok (.iconst 0, 1) := by decide +kernel
theorem dX11_reply_12 : decode cX11_reply 12 = .ok (.bipush 99, 2) := by decide +kernel
theorem dX11_reply_14 : decode cX11_reply 14 = .ok (.invokestatic 117, 3) := by decide +kernel
theorem dX11_reply_17 : decode cX11_reply 17 = .ok (.ifCond .eq 13, 3) := by decide +kernel
theorem dX11_reply_20 : decode cX11_reply 20 = .ok (.iload_n 3, 1) := by decide +kernel
theorem dX11_reply_21 : decode cX11_reply 21 = .ok (.iconst 0, 1) := by decide +kernel
theorem dX11_reply_22 : decode cX11_reply 22 = .ok (.bipush 7, 2) := by decide +kernel
theorem dX11_reply_24 : decode cX11_reply 24 = .ok (.invokestatic 117, 3) := by decide +kernel
theorem dX11_reply_27 : decode cX11_reply 27 = .ok (.ifCond .ne 5, 3) := by decide +kernel
theorem dX11_reply_30 : decode cX11_reply 30 = .ok (.iconst (-1), 1) := by decide +kernel
theorem dX11_reply_31 : decode cX11_reply 31 = .ok (.ireturn, 1) := by decide +kernel
theorem dX11_reply_32 : decode cX11_reply 32 = .ok (.aload_n 0, 1) := by decide +kernel
theorem dX11_reply_33 : decode cX11_reply 33 = .ok (.getfield 90, 3) := by decide +kernel
theorem dX11_reply_36 : decode cX11_reply 36 = .ok (.iload_n 1, 1) := by decide +kernel
theorem dX11_reply_37 : decode cX11_reply 37 = .ok (.iload_n 2, 1) := by decide +kernel
theorem dX11_reply_38 : decode cX11_reply 38 = .ok (.iload_n 3, 1) := by decide +kernel
theorem dX11_reply_39 : decode cX11_reply 39 = .ok (.invokevirtual 308, 3) := by decide +kernel
theorem dX11_reply_42 : decode cX11_reply 42 = .ok (.ireturn, 1) := by decide +kernel
theorem dX11_family_0 : decode cX11_family 0 = .ok (.iload_n 1, 1) := by decide +kernel
theorem dX11_family_1 : decode cX11_family 1 = .ok (.iconst (-1), 1) := by decide +kernel
theorem dX11_family_2 : decode cX11_family 2 = .ok (.if_icmp .ne 14, 3) := by decide +kernel
theorem dX11_family_5 : decode cX11_family 5 = .ok (.aload_n 0, 1) := by decide +kernel
theorem dX11_family_6 : decode cX11_family 6 = .ok (.getfield 26, 3) := by decide +kernel
theorem dX11_family_9 : decode cX11_family 9 = .ok (.getfield 311, 3) := by decide +kernel
theorem dX11_family_12 : decode cX11_family 12 = .ok (.invokevirtual 292, 3) := by decide +kernel
theorem dX11_family_15 : decode cX11_family 15 = .ok (.ireturn, 1) := by decide +kernel
theorem dX11_family_16 : decode cX11_family 16 = .ok (.iload_n 1, 1) := by decide +kernel
theorem dX11_family_17 : decode cX11_family 17 = .ok (.iconst 1, 1) := by decide +kernel
theorem dX11_family_18 : decode cX11_family 18 = .ok (.bipush 9, 2) := by decide +kernel
theorem dX11_family_20 : decode cX11_family 20 = .ok (.invokestatic 117, 3) := by decide +kernel
theorem dX11_family_23 : decode cX11_family 23 = .ok (.ifCond .eq 17, 3) := by decide +kernel
theorem dX11_family_26 : decode cX11_family 26 = .ok (.aload_n 0, 1) := by decide +kernel
theorem dX11_family_27 : decode cX11_family 27 = .ok (.getfield 26, 3) := by decide +kernel
theorem dX11_family_30 : decode cX11_family 30 = .ok (.getfield 311, 3) := by decide +kernel
theorem dX11_family_33 : decode cX11_family 33 = .ok (.iload_n 1, 1) := by decide +kernel
theorem dX11_family_34 : decode cX11_family 34 = .ok (.invokevirtual 314, 3) := by decide +kernel
theorem dX11_family_37 : decode cX11_family 37 = .ok (.goto 4, 3) := by decide +kernel
theorem dX11_family_40 : decode cX11_family 40 = .ok (.iconst (-1), 1) := by decide +kernel
theorem dX11_family_41 : decode cX11_family 41 = .ok (.ireturn, 1) := by decide +kernel
theorem dX11_storm_0 : decode cX11_storm 0 = .ok (.iload_n 1, 1) := by decide +kernel
theorem dX11_storm_1 : decode cX11_storm 1 = .ok (.iconst 1, 1) := by decide +kernel
theorem dX11_storm_2 : decode cX11_storm 2 = .ok (.bipush 30, 2) := by decide +kernel
theorem dX11_storm_4 : decode cX11_storm 4 = .ok (.invokestatic 117, 3) := by decide +kernel
theorem dX11_storm_7 : decode cX11_storm 7 = .ok (.ifCond .ne 5, 3) := by decide +kernel
theorem dX11_storm_10 : decode cX11_storm 10 = .ok (.iconst (-1), 1) := by decide +kernel
theorem dX11_storm_11 : decode cX11_storm 11 = .ok (.ireturn, 1) := by decide +kernel
theorem dX11_storm_12 : decode cX11_storm 12 = .ok (.iload_n 2, 1) := by decide +kernel
theorem dX11_storm_13 : decode cX11_storm 13 = .ok (.iconst (-1), 1) := by decide +kernel
theorem dX11_storm_14 : decode cX11_storm 14 = .ok (.if_icmp .ne 12, 3) := by decide +kernel
theorem dX11_storm_17 : decode cX11_storm 17 = .ok (.aload_n 0, 1) := by decide +kernel
theorem dX11_storm_18 : decode cX11_storm 18 = .ok (.getfield 90, 3) := by decide +kernel
theorem dX11_storm_21 : decode cX11_storm 21 = .ok (.iload_n 1, 1) := by decide +kernel
theorem dX11_storm_22 : decode cX11_storm 22 = .ok (.invokevirtual 316, 3) := by decide +kernel
theorem dX11_storm_25 : decode cX11_storm 25 = .ok (.ireturn, 1) := by decide +kernel
theorem dX11_storm_26 : decode cX11_storm 26 = .ok (.iload_n 2, 1) := by decide +kernel
theorem dX11_storm_27 : decode cX11_storm 27 = .ok (.iconst 1, 1) := by decide +kernel
theorem dX11_storm_28 : decode cX11_storm 28 = .ok (.iconst 4, 1) := by decide +kernel
theorem dX11_storm_29 : decode cX11_storm 29 = .ok (.invokestatic 117, 3) := by decide +kernel
theorem dX11_storm_32 : decode cX11_storm 32 = .ok (.ifCond .eq 15, 3) := by decide +kernel
theorem dX11_storm_35 : decode cX11_storm 35 = .ok (.aload_n 0, 1) := by decide +kernel
theorem dX11_storm_36 : decode cX11_storm 36 = .ok (.getfield 90, 3) := by decide +kernel
theorem dX11_storm_39 : decode cX11_storm 39 = .ok (.iload_n 1, 1) := by decide +kernel
theorem dX11_storm_40 : decode cX11_storm 40 = .ok (.iload_n 2, 1) := by decide +kernel
theorem dX11_storm_41 : decode cX11_storm 41 = .ok (.invokevirtual 319, 3) := by decide +kernel
theorem dX11_storm_44 : decode cX11_storm 44 = .ok (.goto 4, 3) := by decide +kernel
theorem dX11_storm_47 : decode cX11_storm 47 = .ok (.iconst (-1), 1) := by decide +kernel
theorem dX11_storm_48 : decode cX11_storm 48 = .ok (.ireturn, 1) := by decide +kernel
theorem dX11_board_0 : decode cX11_board 0 = .ok (.iload_n 1, 1) := by decide +kernel
theorem dX11_board_1 : decode cX11_board 1 = .ok (.iconst (-1), 1) := by decide +kernel
theorem dX11_board_2 : decode cX11_board 2 = .ok (.if_icmp .ne 14, 3) := by decide +kernel
theorem dX11_board_5 : decode cX11_board 5 = .ok (.aload_n 0, 1) := by decide +kernel
theorem dX11_board_6 : decode cX11_board 6 = .ok (.getfield 26, 3) := by decide +kernel
theorem dX11_board_9 : decode cX11_board 9 = .ok (.getfield 322, 3) := by decide +kernel
theorem dX11_board_12 : decode cX11_board 12 = .ok (.invokevirtual 292, 3) := by decide +kernel
theorem dX11_board_15 : decode cX11_board 15 = .ok (.ireturn, 1) := by decide +kernel
theorem dX11_board_16 : decode cX11_board 16 = .ok (.iload_n 1, 1) := by decide +kernel
theorem dX11_board_17 : decode cX11_board 17 = .ok (.iconst 0, 1) := by decide +kernel
theorem dX11_board_18 : decode cX11_board 18 = .ok (.bipush 99, 2) := by decide +kernel
theorem dX11_board_20 : decode cX11_board 20 = .ok (.invokestatic 117, 3) := by decide +kernel
theorem dX11_board_23 : decode cX11_board 23 = .ok (.ifCond .eq 17, 3) := by decide +kernel
theorem dX11_board_26 : decode cX11_board 26 = .ok (.aload_n 0, 1) := by decide +kernel
theorem dX11_board_27 : decode cX11_board 27 = .ok (.getfield 26, 3) := by decide +kernel
theorem dX11_board_30 : decode cX11_board 30 = .ok (.getfield 322, 3) := by decide +kernel
theorem dX11_board_33 : decode cX11_board 33 = .ok (.iload_n 1, 1) := by decide +kernel
theorem dX11_board_34 : decode cX11_board 34 = .ok (.invokevirtual 314, 3) := by decide +kernel
theorem dX11_board_37 : decode cX11_board 37 = .ok (.goto 4, 3) := by decide +kernel
theorem dX11_board_40 : decode cX11_board 40 = .ok (.iconst (-1), 1) := by decide +kernel
theorem dX11_board_41 : decode cX11_board 41 = .ok (.ireturn, 1) := by decide +kernel
theorem dX11_level_0 : decode cX11_level 0 = .ok (.iload_n 1, 1) := by decide +kernel
theorem dX11_level_1 : decode cX11_level 1 = .ok (.ifCond .ne 11, 3) := by decide +kernel
theorem dX11_level_4 : decode cX11_level 4 = .ok (.aload_n 0, 1) := by decide +kernel
theorem dX11_level_5 : decode cX11_level 5 = .ok (.getfield 90, 3) := by decide +kernel
theorem dX11_level_8 : decode cX11_level 8 = .ok (.invokevirtual 325, 3) := by decide +kernel
theorem dX11_level_11 : decode cX11_level 11 = .ok (.ireturn, 1) := by decide +kernel
theorem dX11_level_12 : decode cX11_level 12 = .ok (.iload_n 1, 1) := by decide +kernel
theorem dX11_level_13 : decode cX11_level 13 = .ok (.iconst 1, 1) := by decide +kernel
theorem dX11_level_14 : decode cX11_level 14 = .ok (.if_icmp .ne 13, 3) := by decide +kernel
theorem dX11_level_17 : decode cX11_level 17 = .ok (.aload_n 0, 1) := by decide +kernel
theorem dX11_level_18 : decode cX11_level 18 = .ok (.getfield 90, 3) := by decide +kernel
theorem dX11_level_21 : decode cX11_level 21 = .ok (.invokevirtual 328, 3) := by decide +kernel
theorem dX11_level_24 : decode cX11_level 24 = .ok (.goto 4, 3) := by decide +kernel
theorem dX11_level_27 : decode cX11_level 27 = .ok (.iconst (-1), 1) := by decide +kernel
theorem dX11_level_28 : decode cX11_level 28 = .ok (.ireturn, 1) := by decide +kernel
theorem dX11_talk_0 : decode cX11_talk 0 = .ok (.iload_n 1, 1) := by decide +kernel
theorem dX11_talk_1 : decode cX11_talk 1 = .ok (.iconst (-1), 1) := by decide +kernel
theorem dX11_talk_2 : decode cX11_talk 2 = .ok (.if_icmp .ne 14, 3) := by decide +kernel
theorem dX11_talk_5 : decode cX11_talk 5 = .ok (.aload_n 0, 1) := by decide +kernel
theorem dX11_talk_6 : decode cX11_talk 6 = .ok (.getfield 26, 3) := by decide +kernel
theorem dX11_talk_9 : decode cX11_talk 9 = .ok (.getfield 331, 3) := by decide +kernel
theorem dX11_talk_12 : decode cX11_talk 12 = .ok (.invokevirtual 292, 3) := by decide +kernel
theorem dX11_talk_15 : decode cX11_talk 15 = .ok (.ireturn, 1) := by decide +kernel
theorem dX11_talk_16 : decode cX11_talk 16 = .ok (.iload_n 1, 1) := by decide +kernel
theorem dX11_talk_17 : decode cX11_talk 17 = .ok (.iconst 0, 1) := by decide +kernel
theorem dX11_talk_18 : decode cX11_talk 18 = .ok (.iconst 2, 1) := by decide +kernel
theorem dX11_talk_19 : decode cX11_talk 19 = .ok (.invokestatic 117, 3) := by decide +kernel
theorem dX11_talk_22 : decode cX11_talk 22 = .ok (.ifCond .eq 17, 3) := by decide +kernel
theorem dX11_talk_25 : decode cX11_talk 25 = .ok (.aload_n 0, 1) := by decide +kernel
theorem dX11_talk_26 : decode cX11_talk 26 = .ok (.getfield 26, 3) := by decide +kernel
theorem dX11_talk_29 : decode cX11_talk 29 = .ok (.getfield 331, 3) := by decide +kernel
theorem dX11_talk_32 : decode cX11_talk 32 = .ok (.iload_n 1, 1) := by decide +kernel
theorem dX11_talk_33 : decode cX11_talk 33 = .ok (.invokevirtual 314, 3) := by decide +kernel
theorem dX11_talk_36 : decode cX11_talk 36 = .ok (.goto 4, 3) := by decide +kernel
theorem dX11_talk_39 : decode cX11_talk 39 = .ok (.iconst (-1), 1) := by decide +kernel
theorem dX11_talk_40 : decode cX11_talk 40 = .ok (.ireturn, 1) := by decide +kernel
theorem dX11_talks_0 : decode cX11_talks 0 = .ok (.iload_n 1, 1) := by decide +kernel
theorem dX11_talks_1 : decode cX11_talks 1 = .ok (.ifCond .ne 11, 3) := by decide +kernel
theorem dX11_talks_4 : decode cX11_talks 4 = .ok (.aload_n 0, 1) := by decide +kernel
theorem dX11_talks_5 : decode cX11_talks 5 = .ok (.getfield 90, 3) := by decide +kernel
theorem dX11_talks_8 : decode cX11_talks 8 = .ok (.invokevirtual 334, 3) := by decide +kernel
theorem dX11_talks_11 : decode cX11_talks 11 = .ok (.ireturn, 1) := by decide +kernel
theorem dX11_talks_12 : decode cX11_talks 12 = .ok (.iload_n 1, 1) := by decide +kernel
theorem dX11_talks_13 : decode cX11_talks 13 = .ok (.iconst 1, 1) := by decide +kernel
theorem dX11_talks_14 : decode cX11_talks 14 = .ok (.if_icmp .ne 11, 3) := by decide +kernel
theorem dX11_talks_17 : decode cX11_talks 17 = .ok (.aload_n 0, 1) := by decide +kernel
theorem dX11_talks_18 : decode cX11_talks 18 = .ok (.getfield 90, 3) := by decide +kernel
theorem dX11_talks_21 : decode cX11_talks 21 = .ok (.invokevirtual 337, 3) := by decide +kernel
theorem dX11_talks_24 : decode cX11_talks 24 = .ok (.ireturn, 1) := by decide +kernel
theorem dX11_talks_25 : decode cX11_talks 25 = .ok (.iload_n 1, 1) := by decide +kernel
theorem dX11_talks_26 : decode cX11_talks 26 = .ok (.bipush 10, 2) := by decide +kernel
theorem dX11_talks_28 : decode cX11_talks 28 = .ok (.bipush 25, 2) := by decide +kernel
theorem dX11_talks_30 : decode cX11_talks 30 = .ok (.invokestatic 117, 3) := by decide +kernel
theorem dX11_talks_33 : decode cX11_talks 33 = .ok (.ifCond .eq 17, 3) := by decide +kernel
theorem dX11_talks_36 : decode cX11_talks 36 = .ok (.aload_n 0, 1) := by decide +kernel
theorem dX11_talks_37 : decode cX11_talks 37 = .ok (.getfield 90, 3) := by decide +kernel
theorem dX11_talks_40 : decode cX11_talks 40 = .ok (.iload_n 1, 1) := by decide +kernel
theorem dX11_talks_41 : decode cX11_talks 41 = .ok (.bipush 10, 2) := by decide +kernel
theorem dX11_talks_43 : decode cX11_talks 43 = .ok (.isub, 1) := by decide +kernel
theorem dX11_talks_44 : decode cX11_talks 44 = .ok (.invokevirtual 340, 3) := by decide +kernel
theorem dX11_talks_47 : decode cX11_talks 47 = .ok (.goto 4, 3) := by decide +kernel
theorem dX11_talks_50 : decode cX11_talks 50 = .ok (.iconst (-1), 1) := by decide +kernel
theorem dX11_talks_51 : decode cX11_talks 51 = .ok (.ireturn, 1) := by decide +kernel
theorem dX11_half_0 : decode cX11_half 0 = .ok (.iload_n 1, 1) := by decide +kernel
theorem dX11_half_1 : decode cX11_half 1 = .ok (.iconst 0, 1) := by decide +kernel
theorem dX11_half_2 : decode cX11_half 2 = .ok (.iconst 2, 1) := by decide +kernel
theorem dX11_half_3 : decode cX11_half 3 = .ok (.invokestatic 117, 3) := by decide +kernel
theorem dX11_half_6 : decode cX11_half 6 = .ok (.ifCond .ne 5, 3) := by decide +kernel
theorem dX11_half_9 : decode cX11_half 9 = .ok (.iconst (-1), 1) := by decide +kernel
theorem dX11_half_10 : decode cX11_half 10 = .ok (.ireturn, 1) := by decide +kernel
theorem dX11_half_11 : decode cX11_half 11 = .ok (.aload_n 0, 1) := by decide +kernel
theorem dX11_half_12 : decode cX11_half 12 = .ok (.getfield 26, 3) := by decide +kernel
theorem dX11_half_15 : decode cX11_half 15 = .ok (.iload_n 1, 1) := by decide +kernel
theorem dX11_half_16 : decode cX11_half 16 = .ok (.invokevirtual 343, 3) := by decide +kernel
theorem dX11_half_19 : decode cX11_half 19 = .ok (.astore_n 3, 1) := by decide +kernel
theorem dX11_half_20 : decode cX11_half 20 = .ok (.iload_n 2, 1) := by decide +kernel
theorem dX11_half_21 : decode cX11_half 21 = .ok (.iconst (-1), 1) := by decide +kernel
theorem dX11_half_22 : decode cX11_half 22 = .ok (.if_icmp .ne 8, 3) := by decide +kernel
theorem dX11_half_25 : decode cX11_half 25 = .ok (.aload_n 3, 1) := by decide +kernel
theorem dX11_half_26 : decode cX11_half 26 = .ok (.invokevirtual 292, 3) := by decide +kernel
theorem dX11_half_29 : decode cX11_half 29 = .ok (.ireturn, 1) := by decide +kernel
theorem dX11_half_30 : decode cX11_half 30 = .ok (.iload_n 2, 1) := by decide +kernel
theorem dX11_half_31 : decode cX11_half 31 = .ok (.iconst 0, 1) := by decide +kernel
theorem dX11_half_32 : decode cX11_half 32 = .ok (.bipush 9, 2) := by decide +kernel
theorem dX11_half_34 : decode cX11_half 34 = .ok (.invokestatic 117, 3) := by decide +kernel
theorem dX11_half_37 : decode cX11_half 37 = .ok (.ifCond .eq 11, 3) := by decide +kernel
theorem dX11_half_40 : decode cX11_half 40 = .ok (.aload_n 3, 1) := by decide +kernel
theorem dX11_half_41 : decode cX11_half 41 = .ok (.iload_n 2, 1) := by decide +kernel
theorem dX11_half_42 : decode cX11_half 42 = .ok (.invokevirtual 314, 3) := by decide +kernel
theorem dX11_half_45 : decode cX11_half 45 = .ok (.goto 4, 3) := by decide +kernel
theorem dX11_half_48 : decode cX11_half 48 = .ok (.iconst (-1), 1) := by decide +kernel
theorem dX11_half_49 : decode cX11_half 49 = .ok (.ireturn, 1) := by decide +kernel
theorem dX11_halves_0 : decode cX11_halves 0 = .ok (.iload_n 1, 1) := by decide +kernel
theorem dX11_halves_1 : decode cX11_halves 1 = .ok (.ifCond .ne 19, 3) := by decide +kernel
theorem dX11_halves_4 : decode cX11_halves 4 = .ok (.aload_n 0, 1) := by decide +kernel
theorem dX11_halves_5 : decode cX11_halves 5 = .ok (.getfield 90, 3) := by decide +kernel
theorem dX11_halves_8 : decode cX11_halves 8 = .ok (.invokevirtual 346, 3) := by decide +kernel
theorem dX11_halves_11 : decode cX11_halves 11 = .ok (.ifCond .le 7, 3) := by decide +kernel
theorem dX11_halves_14 : decode cX11_halves 14 = .ok (.iconst 1, 1) := by decide +kernel
theorem dX11_halves_15 : decode cX11_halves 15 = .ok (.goto 4, 3) := by decide +kernel
theorem dX11_halves_18 : decode cX11_halves 18 = .ok (.iconst 0, 1) := by decide +kernel
theorem dX11_halves_19 : decode cX11_halves 19 = .ok (.ireturn, 1) := by decide +kernel
theorem dX11_halves_20 : decode cX11_halves 20 = .ok (.iload_n 1, 1) := by decide +kernel
theorem dX11_halves_21 : decode cX11_halves 21 = .ok (.iconst 1, 1) := by decide +kernel
theorem dX11_halves_22 : decode cX11_halves 22 = .ok (.if_icmp .ne 13, 3) := by decide +kernel
theorem dX11_halves_25 : decode cX11_halves 25 = .ok (.aload_n 0, 1) := by decide +kernel
theorem dX11_halves_26 : decode cX11_halves 26 = .ok (.getfield 90, 3) := by decide +kernel
theorem dX11_halves_29 : decode cX11_halves 29 = .ok (.invokevirtual 346, 3) := by decide +kernel
theorem dX11_halves_32 : decode cX11_halves 32 = .ok (.goto 4, 3) := by decide +kernel
theorem dX11_halves_35 : decode cX11_halves 35 = .ok (.iconst (-1), 1) := by decide +kernel
theorem dX11_halves_36 : decode cX11_halves 36 = .ok (.ireturn, 1) := by decide +kernel
theorem dX11_swing_0 : decode cX11_swing 0 = .ok (.iload_n 1, 1) := by decide +kernel
theorem dX11_swing_1 : decode cX11_swing 1 = .ok (.iconst (-1), 1) := by decide +kernel
theorem dX11_swing_2 : decode cX11_swing 2 = .ok (.if_icmp .ne 14, 3) := by decide +kernel
theorem dX11_swing_5 : decode cX11_swing 5 = .ok (.aload_n 0, 1) := by decide +kernel
theorem dX11_swing_6 : decode cX11_swing 6 = .ok (.getfield 26, 3) := by decide +kernel
theorem dX11_swing_9 : decode cX11_swing 9 = .ok (.getfield 349, 3) := by decide +kernel
theorem dX11_swing_12 : decode cX11_swing 12 = .ok (.invokevirtual 292, 3) := by decide +kernel
theorem dX11_swing_15 : decode cX11_swing 15 = .ok (.ireturn, 1) := by decide +kernel
theorem dX11_swing_16 : decode cX11_swing 16 = .ok (.iload_n 1, 1) := by decide +kernel
theorem dX11_swing_17 : decode cX11_swing 17 = .ok (.iconst 1, 1) := by decide +kernel
theorem dX11_swing_18 : decode cX11_swing 18 = .ok (.bipush 60, 2) := by decide +kernel
theorem dX11_swing_20 : decode cX11_swing 20 = .ok (.invokestatic 117, 3) := by decide +kernel
theorem dX11_swing_23 : decode cX11_swing 23 = .ok (.ifCond .eq 17, 3) := by decide +kernel
theorem dX11_swing_26 : decode cX11_swing 26 = .ok (.aload_n 0, 1) := by decide +kernel
theorem dX11_swing_27 : decode cX11_swing 27 = .ok (.getfield 26, 3) := by decide +kernel
theorem dX11_swing_30 : decode cX11_swing 30 = .ok (.getfield 349, 3) := by decide +kernel
theorem dX11_swing_33 : decode cX11_swing 33 = .ok (.iload_n 1, 1) := by decide +kernel
theorem dX11_swing_34 : decode cX11_swing 34 = .ok (.invokevirtual 314, 3) := by decide +kernel
theorem dX11_swing_37 : decode cX11_swing 37 = .ok (.goto 4, 3) := by decide +kernel
theorem dX11_swing_40 : decode cX11_swing 40 = .ok (.iconst (-1), 1) := by decide +kernel
theorem dX11_swing_41 : decode cX11_swing 41 = .ok (.ireturn, 1) := by decide +kernel
theorem dX11_swings_0 : decode cX11_swings 0 = .ok (.iload_n 1, 1) := by decide +kernel
theorem dX11_swings_1 : decode cX11_swings 1 = .ok (.iconst 0, 1) := by decide +kernel
theorem dX11_swings_2 : decode cX11_swings 2 = .ok (.iconst 1, 1) := by decide +kernel
theorem dX11_swings_3 : decode cX11_swings 3 = .ok (.invokestatic 117, 3) := by decide +kernel
theorem dX11_swings_6 : decode cX11_swings 6 = .ok (.ifCond .eq 18, 3) := by decide +kernel
theorem dX11_swings_9 : decode cX11_swings 9 = .ok (.aload_n 0, 1) := by decide +kernel
theorem dX11_swings_10 : decode cX11_swings 10 = .ok (.getfield 26, 3) := by decide +kernel
theorem dX11_swings_13 : decode cX11_swings 13 = .ok (.getfield 349, 3) := by decide +kernel
theorem dX11_swings_16 : decode cX11_swings 16 = .ok (.invokevirtual 173, 3) := by decide +kernel
theorem dX11_swings_19 : decode cX11_swings 19 = .ok (.iconst 2, 1) := by decide +kernel
theorem dX11_swings_20 : decode cX11_swings 20 = .ok (.irem, 1) := by decide +kernel
theorem dX11_swings_21 : decode cX11_swings 21 = .ok (.ifCond .eq 5, 3) := by decide +kernel
theorem dX11_swings_24 : decode cX11_swings 24 = .ok (.iconst (-1), 1) := by decide +kernel
theorem dX11_swings_25 : decode cX11_swings 25 = .ok (.ireturn, 1) := by decide +kernel
theorem dX11_swings_26 : decode cX11_swings 26 = .ok (.aload_n 0, 1) := by decide +kernel
theorem dX11_swings_27 : decode cX11_swings 27 = .ok (.getfield 90, 3) := by decide +kernel
theorem dX11_swings_30 : decode cX11_swings 30 = .ok (.invokevirtual 352, 3) := by decide +kernel
theorem dX11_swings_33 : decode cX11_swings 33 = .ok (.istore_n 2, 1) := by decide +kernel
theorem dX11_swings_34 : decode cX11_swings 34 = .ok (.iload_n 1, 1) := by decide +kernel
theorem dX11_swings_35 : decode cX11_swings 35 = .ok (.iconst 1, 1) := by decide +kernel
theorem dX11_swings_36 : decode cX11_swings 36 = .ok (.if_icmp .ne 7, 3) := by decide +kernel
theorem dX11_swings_39 : decode cX11_swings 39 = .ok (.iload_n 2, 1) := by decide +kernel
theorem dX11_swings_40 : decode cX11_swings 40 = .ok (.goto 11, 3) := by decide +kernel
theorem dX11_swings_43 : decode cX11_swings 43 = .ok (.aload_n 0, 1) := by decide +kernel
theorem dX11_swings_44 : decode cX11_swings 44 = .ok (.getfield 90, 3) := by decide +kernel
theorem dX11_swings_47 : decode cX11_swings 47 = .ok (.iload_n 2, 1) := by decide +kernel
theorem dX11_swings_48 : decode cX11_swings 48 = .ok (.invokevirtual 355, 3) := by decide +kernel
theorem dX11_swings_51 : decode cX11_swings 51 = .ok (.ireturn, 1) := by decide +kernel
theorem dX11_quarrel_0 : decode cX11_quarrel 0 = .ok (.iload_n 1, 1) := by decide +kernel
theorem dX11_quarrel_1 : decode cX11_quarrel 1 = .ok (.iconst (-1), 1) := by decide +kernel
theorem dX11_quarrel_2 : decode cX11_quarrel 2 = .ok (.if_icmp .ne 14, 3) := by decide +kernel
theorem dX11_quarrel_5 : decode cX11_quarrel 5 = .ok (.aload_n 0, 1) := by decide +kernel
theorem dX11_quarrel_6 : decode cX11_quarrel 6 = .ok (.getfield 26, 3) := by decide +kernel
theorem dX11_quarrel_9 : decode cX11_quarrel 9 = .ok (.getfield 358, 3) := by decide +kernel
theorem dX11_quarrel_12 : decode cX11_quarrel 12 = .ok (.invokevirtual 292, 3) := by decide +kernel
theorem dX11_quarrel_15 : decode cX11_quarrel 15 = .ok (.ireturn, 1) := by decide +kernel
theorem dX11_quarrel_16 : decode cX11_quarrel 16 = .ok (.iload_n 1, 1) := by decide +kernel
theorem dX11_quarrel_17 : decode cX11_quarrel 17 = .ok (.iconst 0, 1) := by decide +kernel
theorem dX11_quarrel_18 : decode cX11_quarrel 18 = .ok (.bipush 7, 2) := by decide +kernel
theorem dX11_quarrel_20 : decode cX11_quarrel 20 = .ok (.invokestatic 117, 3) := by decide +kernel
theorem dX11_quarrel_23 : decode cX11_quarrel 23 = .ok (.ifCond .eq 18, 3) := by decide +kernel
theorem dX11_quarrel_26 : decode cX11_quarrel 26 = .ok (.iload_n 2, 1) := by decide +kernel
theorem dX11_quarrel_27 : decode cX11_quarrel 27 = .ok (.iconst 0, 1) := by decide +kernel
theorem dX11_quarrel_28 : decode cX11_quarrel 28 = .ok (.bipush 7, 2) := by decide +kernel
theorem dX11_quarrel_30 : decode cX11_quarrel 30 = .ok (.invokestatic 117, 3) := by decide +kernel
theorem dX11_quarrel_33 : decode cX11_quarrel 33 = .ok (.ifCond .eq 8, 3) := by decide +kernel
theorem dX11_quarrel_36 : decode cX11_quarrel 36 = .ok (.iload_n 1, 1) := by decide +kernel
theorem dX11_quarrel_37 : decode cX11_quarrel 37 = .ok (.iload_n 2, 1) := by decide +kernel
theorem dX11_quarrel_38 : decode cX11_quarrel 38 = .ok (.if_icmp .ne 5, 3) := by decide +kernel
theorem dX11_quarrel_41 : decode cX11_quarrel 41 = .ok (.iconst (-1), 1) := by decide +kernel
theorem dX11_quarrel_42 : decode cX11_quarrel 42 = .ok (.ireturn, 1) := by decide +kernel
theorem dX11_quarrel_43 : decode cX11_quarrel 43 = .ok (.aload_n 0, 1) := by decide +kernel
theorem dX11_quarrel_44 : decode cX11_quarrel 44 = .ok (.getfield 26, 3) := by decide +kernel
theorem dX11_quarrel_47 : decode cX11_quarrel 47 = .ok (.getfield 358, 3) := by decide +kernel
theorem dX11_quarrel_50 : decode cX11_quarrel 50 = .ok (.iload_n 1, 1) := by decide +kernel
theorem dX11_quarrel_51 : decode cX11_quarrel 51 = .ok (.iload_n 2, 1) := by decide +kernel
theorem dX11_quarrel_52 : decode cX11_quarrel 52 = .ok (.iconst 0, 1) := by decide +kernel
theorem dX11_quarrel_53 : decode cX11_quarrel 53 = .ok (.iconst 0, 1) := by decide +kernel
theorem dX11_quarrel_54 : decode cX11_quarrel 54 = .ok (.iconst 0, 1) := by decide +kernel
theorem dX11_quarrel_55 : decode cX11_quarrel 55 = .ok (.invokevirtual 295, 3) := by decide +kernel
theorem dX11_quarrel_58 : decode cX11_quarrel 58 = .ok (.ireturn, 1) := by decide +kernel
theorem dX11_seated_0 : decode cX11_seated 0 = .ok (.iload_n 1, 1) := by decide +kernel
theorem dX11_seated_1 : decode cX11_seated 1 = .ok (.iconst 1, 1) := by decide +kernel
theorem dX11_seated_2 : decode cX11_seated 2 = .ok (.bipush 8, 2) := by decide +kernel
theorem dX11_seated_4 : decode cX11_seated 4 = .ok (.invokestatic 117, 3) := by decide +kernel
theorem dX11_seated_7 : decode cX11_seated 7 = .ok (.ifCond .eq 12, 3) := by decide +kernel
theorem dX11_seated_10 : decode cX11_seated 10 = .ok (.iload_n 2, 1) := by decide +kernel
theorem dX11_seated_11 : decode cX11_seated 11 = .ok (.iconst 0, 1) := by decide +kernel
theorem dX11_seated_12 : decode cX11_seated 12 = .ok (.iconst 1, 1) := by decide +kernel
theorem dX11_seated_13 : decode cX11_seated 13 = .ok (.invokestatic 117, 3) := by decide +kernel
theorem dX11_seated_16 : decode cX11_seated 16 = .ok (.ifCond .ne 5, 3) := by decide +kernel
theorem dX11_seated_19 : decode cX11_seated 19 = .ok (.iconst (-1), 1) := by decide +kernel
theorem dX11_seated_20 : decode cX11_seated 20 = .ok (.ireturn, 1) := by decide +kernel
theorem dX11_seated_21 : decode cX11_seated 21 = .ok (.aload_n 0, 1) := by decide +kernel
theorem dX11_seated_22 : decode cX11_seated 22 = .ok (.getfield 90, 3) := by decide +kernel
theorem dX11_seated_25 : decode cX11_seated 25 = .ok (.iload_n 1, 1) := by decide +kernel
theorem dX11_seated_26 : decode cX11_seated 26 = .ok (.iload_n 2, 1) := by decide +kernel
theorem dX11_seated_27 : decode cX11_seated 27 = .ok (.iconst 1, 1) := by decide +kernel
theorem dX11_seated_28 : decode cX11_seated 28 = .ok (.if_icmp .ne 7, 3) := by decide +kernel
theorem dX11_seated_31 : decode cX11_seated 31 = .ok (.iconst 1, 1) := by decide +kernel
theorem dX11_seated_32 : decode cX11_seated 32 = .ok (.goto 4, 3) := by decide +kernel
theorem dX11_seated_35 : decode cX11_seated 35 = .ok (.iconst 0, 1) := by decide +kernel
theorem dX11_seated_36 : decode cX11_seated 36 = .ok (.invokevirtual 361, 3) := by decide +kernel
theorem dX11_seated_39 : decode cX11_seated 39 = .ok (.ireturn, 1) := by decide +kernel
theorem dX11_last_0 : decode cX11_last 0 = .ok (.aload_n 0, 1) := by decide +kernel
theorem dX11_last_1 : decode cX11_last 1 = .ok (.getfield 19, 3) := by decide +kernel
theorem dX11_last_4 : decode cX11_last 4 = .ok (.iload_n 1, 1) := by decide +kernel
theorem dX11_last_5 : decode cX11_last 5 = .ok (.invokevirtual 134, 3) := by decide +kernel
theorem dX11_last_8 : decode cX11_last 8 = .ok (.ifCond .eq 12, 3) := by decide +kernel
theorem dX11_last_11 : decode cX11_last 11 = .ok (.iload_n 2, 1) := by decide +kernel
theorem dX11_last_12 : decode cX11_last 12 = .ok (.iconst 0, 1) := by decide +kernel
theorem dX11_last_13 : decode cX11_last 13 = .ok (.iconst 2, 1) := by decide +kernel
theorem dX11_last_14 : decode cX11_last 14 = .ok (.invokestatic 117, 3) := by decide +kernel
theorem dX11_last_17 : decode cX11_last 17 = .ok (.ifCond .ne 5, 3) := by decide +kernel
theorem dX11_last_20 : decode cX11_last 20 = .ok (.iconst (-1), 1) := by decide +kernel
theorem dX11_last_21 : decode cX11_last 21 = .ok (.ireturn, 1) := by decide +kernel
theorem dX11_last_22 : decode cX11_last 22 = .ok (.aload_n 0, 1) := by decide +kernel
theorem dX11_last_23 : decode cX11_last 23 = .ok (.getfield 90, 3) := by decide +kernel
theorem dX11_last_26 : decode cX11_last 26 = .ok (.iload_n 1, 1) := by decide +kernel
theorem dX11_last_27 : decode cX11_last 27 = .ok (.iload_n 2, 1) := by decide +kernel
theorem dX11_last_28 : decode cX11_last 28 = .ok (.invokevirtual 365, 3) := by decide +kernel
theorem dX11_last_31 : decode cX11_last 31 = .ok (.ireturn, 1) := by decide +kernel
theorem dX11_steps_0 : decode cX11_steps 0 = .ok (.iload_n 1, 1) := by decide +kernel
theorem dX11_steps_1 : decode cX11_steps 1 = .ok (.iconst 0, 1) := by decide +kernel
theorem dX11_steps_2 : decode cX11_steps 2 = .ok (.bipush 40, 2) := by decide +kernel
theorem dX11_steps_4 : decode cX11_steps 4 = .ok (.invokestatic 117, 3) := by decide +kernel
theorem dX11_steps_7 : decode cX11_steps 7 = .ok (.ifCond .eq 13, 3) := by decide +kernel
theorem dX11_steps_10 : decode cX11_steps 10 = .ok (.iload_n 2, 1) := by decide +kernel
theorem dX11_steps_11 : decode cX11_steps 11 = .ok (.iconst 0, 1) := by decide +kernel
theorem dX11_steps_12 : decode cX11_steps 12 = .ok (.bipush 31, 2) := by decide +kernel
theorem dX11_steps_14 : decode cX11_steps 14 = .ok (.invokestatic 117, 3) := by decide +kernel
theorem dX11_steps_17 : decode cX11_steps 17 = .ok (.ifCond .ne 5, 3) := by decide +kernel
theorem dX11_steps_20 : decode cX11_steps 20 = .ok (.iconst (-1), 1) := by decide +kernel
theorem dX11_steps_21 : decode cX11_steps 21 = .ok (.ireturn, 1) := by decide +kernel
theorem dX11_steps_22 : decode cX11_steps 22 = .ok (.iload_n 3, 1) := by decide +kernel
theorem dX11_steps_23 : decode cX11_steps 23 = .ok (.ifCond .ne 13, 3) := by decide +kernel
theorem dX11_steps_26 : decode cX11_steps 26 = .ok (.aload_n 0, 1) := by decide +kernel
theorem dX11_steps_27 : decode cX11_steps 27 = .ok (.getfield 90, 3) := by decide +kernel
theorem dX11_steps_30 : decode cX11_steps 30 = .ok (.iload_n 1, 1) := by decide +kernel
theorem dX11_steps_31 : decode cX11_steps 31 = .ok (.iload_n 2, 1) := by decide +kernel
theorem dX11_steps_32 : decode cX11_steps 32 = .ok (.invokevirtual 368, 3) := by decide +kernel
theorem dX11_steps_35 : decode cX11_steps 35 = .ok (.ireturn, 1) := by decide +kernel
theorem dX11_steps_36 : decode cX11_steps 36 = .ok (.iload_n 3, 1) := by decide +kernel
theorem dX11_steps_37 : decode cX11_steps 37 = .ok (.iconst 1, 1) := by decide +kernel
theorem dX11_steps_38 : decode cX11_steps 38 = .ok (.if_icmp .ne 15, 3) := by decide +kernel
theorem dX11_steps_41 : decode cX11_steps 41 = .ok (.aload_n 0, 1) := by decide +kernel
theorem dX11_steps_42 : decode cX11_steps 42 = .ok (.getfield 90, 3) := by decide +kernel
theorem dX11_steps_45 : decode cX11_steps 45 = .ok (.iload_n 1, 1) := by decide +kernel
theorem dX11_steps_46 : decode cX11_steps 46 = .ok (.iload_n 2, 1) := by decide +kernel
theorem dX11_steps_47 : decode cX11_steps 47 = .ok (.invokevirtual 371, 3) := by decide +kernel
theorem dX11_steps_50 : decode cX11_steps 50 = .ok (.goto 4, 3) := by decide +kernel
theorem dX11_steps_53 : decode cX11_steps 53 = .ok (.iconst (-1), 1) := by decide +kernel
theorem dX11_steps_54 : decode cX11_steps 54 = .ok (.ireturn, 1) := by decide +kernel
theorem dX11_lamps_0 : decode cX11_lamps 0 = .ok (.iload_n 1, 1) := by decide +kernel
theorem dX11_lamps_1 : decode cX11_lamps 1 = .ok (.iconst 1, 1) := by decide +kernel
theorem dX11_lamps_2 : decode cX11_lamps 2 = .ok (.bipush 12, 2) := by decide +kernel
theorem dX11_lamps_4 : decode cX11_lamps 4 = .ok (.invokestatic 117, 3) := by decide +kernel
theorem dX11_lamps_7 : decode cX11_lamps 7 = .ok (.ifCond .eq 34, 3) := by decide +kernel
theorem dX11_lamps_10 : decode cX11_lamps 10 = .ok (.iload_n 2, 1) := by decide +kernel
theorem dX11_lamps_11 : decode cX11_lamps 11 = .ok (.iconst 1, 1) := by decide +kernel
theorem dX11_lamps_12 : decode cX11_lamps 12 = .ok (.bipush 12, 2) := by decide +kernel
theorem dX11_lamps_14 : decode cX11_lamps 14 = .ok (.invokestatic 117, 3) := by decide +kernel
theorem dX11_lamps_17 : decode cX11_lamps 17 = .ok (.ifCond .eq 24, 3) := by decide +kernel
theorem dX11_lamps_20 : decode cX11_lamps 20 = .ok (.iload_n 3, 1) := by decide +kernel
theorem dX11_lamps_21 : decode cX11_lamps 21 = .ok (.iconst 1, 1) := by decide +kernel
theorem dX11_lamps_22 : decode cX11_lamps 22 = .ok (.bipush 12, 2) := by decide +kernel
theorem dX11_lamps_24 : decode cX11_lamps 24 = .ok (.invokestatic 117, 3) := by decide +kernel
theorem dX11_lamps_27 : decode cX11_lamps 27 = .ok (.ifCond .eq 14, 3) := by decide +kernel
theorem dX11_lamps_30 : decode cX11_lamps 30 = .ok (.iload 4, 2) := by decide +kernel
theorem dX11_lamps_32 : decode cX11_lamps 32 = .ok (.iconst 0, 1) := by decide +kernel
theorem dX11_lamps_33 : decode cX11_lamps 33 = .ok (.bipush 12, 2) := by decide +kernel
theorem dX11_lamps_35 : decode cX11_lamps 35 = .ok (.invokestatic 117, 3) := by decide +kernel
theorem dX11_lamps_38 : decode cX11_lamps 38 = .ok (.ifCond .ne 5, 3) := by decide +kernel
theorem dX11_lamps_41 : decode cX11_lamps 41 = .ok (.iconst (-1), 1) := by decide +kernel
theorem dX11_lamps_42 : decode cX11_lamps 42 = .ok (.ireturn, 1) := by decide +kernel
theorem dX11_lamps_43 : decode cX11_lamps 43 = .ok (.aload_n 0, 1) := by decide +kernel
theorem dX11_lamps_44 : decode cX11_lamps 44 = .ok (.getfield 90, 3) := by decide +kernel
theorem dX11_lamps_47 : decode cX11_lamps 47 = .ok (.iload_n 1, 1) := by decide +kernel
theorem dX11_lamps_48 : decode cX11_lamps 48 = .ok (.iload_n 2, 1) := by decide +kernel
theorem dX11_lamps_49 : decode cX11_lamps 49 = .ok (.iload_n 3, 1) := by decide +kernel
theorem dX11_lamps_50 : decode cX11_lamps 50 = .ok (.iload 4, 2) := by decide +kernel
theorem dX11_lamps_52 : decode cX11_lamps 52 = .ok (.invokevirtual 374, 3) := by decide +kernel
theorem dX11_lamps_55 : decode cX11_lamps 55 = .ok (.ireturn, 1) := by decide +kernel
theorem dX11_hooks_0 : decode cX11_hooks 0 = .ok (.aload_n 0, 1) := by decide +kernel
theorem dX11_hooks_1 : decode cX11_hooks 1 = .ok (.getfield 90, 3) := by decide +kernel
theorem dX11_hooks_4 : decode cX11_hooks 4 = .ok (.iload_n 1, 1) := by decide +kernel
theorem dX11_hooks_5 : decode cX11_hooks 5 = .ok (.invokevirtual 378, 3) := by decide +kernel
theorem dX11_hooks_8 : decode cX11_hooks 8 = .ok (.istore_n 3, 1) := by decide +kernel
theorem dX11_hooks_9 : decode cX11_hooks 9 = .ok (.iload_n 3, 1) := by decide +kernel
theorem dX11_hooks_10 : decode cX11_hooks 10 = .ok (.iconst (-1), 1) := by decide +kernel
theorem dX11_hooks_11 : decode cX11_hooks 11 = .ok (.if_icmp .ne 5, 3) := by decide +kernel
theorem dX11_hooks_14 : decode cX11_hooks 14 = .ok (.iconst (-1), 1) := by decide +kernel
theorem dX11_hooks_15 : decode cX11_hooks 15 = .ok (.ireturn, 1) := by decide +kernel
theorem dX11_hooks_16 : decode cX11_hooks 16 = .ok (.iload_n 2, 1) := by decide +kernel
theorem dX11_hooks_17 : decode cX11_hooks 17 = .ok (.tableswitch 54 0 2 #[27, 36, 45], 27) := by decide +kernel
theorem dX11_hooks_44 : decode cX11_hooks 44 = .ok (.aload_n 0, 1) := by decide +kernel
theorem dX11_hooks_45 : decode cX11_hooks 45 = .ok (.getfield 90, 3) := by decide +kernel
theorem dX11_hooks_48 : decode cX11_hooks 48 = .ok (.iload_n 3, 1) := by decide +kernel
theorem dX11_hooks_49 : decode cX11_hooks 49 = .ok (.invokevirtual 381, 3) := by decide +kernel
theorem dX11_hooks_52 : decode cX11_hooks 52 = .ok (.ireturn, 1) := by decide +kernel
theorem dX11_hooks_53 : decode cX11_hooks 53 = .ok (.aload_n 0, 1) := by decide +kernel
theorem dX11_hooks_54 : decode cX11_hooks 54 = .ok (.getfield 90, 3) := by decide +kernel
theorem dX11_hooks_57 : decode cX11_hooks 57 = .ok (.iload_n 3, 1) := by decide +kernel
theorem dX11_hooks_58 : decode cX11_hooks 58 = .ok (.invokevirtual 384, 3) := by decide +kernel
theorem dX11_hooks_61 : decode cX11_hooks 61 = .ok (.ireturn, 1) := by decide +kernel
theorem dX11_hooks_62 : decode cX11_hooks 62 = .ok (.aload_n 0, 1) := by decide +kernel
theorem dX11_hooks_63 : decode cX11_hooks 63 = .ok (.getfield 90, 3) := by decide +kernel
theorem dX11_hooks_66 : decode cX11_hooks 66 = .ok (.iload_n 3, 1) := by decide +kernel
theorem dX11_hooks_67 : decode cX11_hooks 67 = .ok (.invokevirtual 387, 3) := by decide +kernel
theorem dX11_hooks_70 : decode cX11_hooks 70 = .ok (.ireturn, 1) := by decide +kernel
theorem dX11_hooks_71 : decode cX11_hooks 71 = .ok (.iconst (-1), 1) := by decide +kernel
theorem dX11_hooks_72 : decode cX11_hooks 72 = .ok (.ireturn, 1) := by decide +kernel
theorem dX11_game_0 : decode cX11_game 0 = .ok (.iload_n 1, 1) := by decide +kernel
theorem dX11_game_1 : decode cX11_game 1 = .ok (.iconst 1, 1) := by decide +kernel
theorem dX11_game_2 : decode cX11_game 2 = .ok (.sipush 200, 3) := by decide +kernel
theorem dX11_game_5 : decode cX11_game 5 = .ok (.invokestatic 117, 3) := by decide +kernel
theorem dX11_game_8 : decode cX11_game 8 = .ok (.ifCond .eq 14, 3) := by decide +kernel
theorem dX11_game_11 : decode cX11_game 11 = .ok (.iload_n 2, 1) := by decide +kernel
theorem dX11_game_12 : decode cX11_game 12 = .ok (.iconst 1, 1) := by decide +kernel
theorem dX11_game_13 : decode cX11_game 13 = .ok (.sipush 200, 3) := by decide +kernel
theorem dX11_game_16 : decode cX11_game 16 = .ok (.invokestatic 117, 3) := by decide +kernel
theorem dX11_game_19 : decode cX11_game 19 = .ok (.ifCond .ne 5, 3) := by decide +kernel
theorem dX11_game_22 : decode cX11_game 22 = .ok (.iconst (-1), 1) := by decide +kernel
theorem dX11_game_23 : decode cX11_game 23 = .ok (.ireturn, 1) := by decide +kernel
theorem dX11_game_24 : decode cX11_game 24 = .ok (.aload_n 0, 1) := by decide +kernel
theorem dX11_game_25 : decode cX11_game 25 = .ok (.getfield 90, 3) := by decide +kernel
theorem dX11_game_28 : decode cX11_game 28 = .ok (.iload_n 1, 1) := by decide +kernel
theorem dX11_game_29 : decode cX11_game 29 = .ok (.iload_n 2, 1) := by decide +kernel
theorem dX11_game_30 : decode cX11_game 30 = .ok (.invokestatic 390, 3) := by decide +kernel
theorem dX11_game_33 : decode cX11_game 33 = .ok (.iload_n 1, 1) := by decide +kernel
theorem dX11_game_34 : decode cX11_game 34 = .ok (.iload_n 2, 1) := by decide +kernel
theorem dX11_game_35 : decode cX11_game 35 = .ok (.invokestatic 395, 3) := by decide +kernel
theorem dX11_game_38 : decode cX11_game 38 = .ok (.invokevirtual 398, 3) := by decide +kernel
theorem dX11_game_41 : decode cX11_game 41 = .ok (.ireturn, 1) := by decide +kernel
theorem dX11_undo_0 : decode cX11_undo 0 = .ok (.aload_n 0, 1) := by decide +kernel
theorem dX11_undo_1 : decode cX11_undo 1 = .ok (.getfield 42, 3) := by decide +kernel
theorem dX11_undo_4 : decode cX11_undo 4 = .ok (.aload_n 0, 1) := by decide +kernel
theorem dX11_undo_5 : decode cX11_undo 5 = .ok (.getfield 19, 3) := by decide +kernel
theorem dX11_undo_8 : decode cX11_undo 8 = .ok (.invokevirtual 401, 3) := by decide +kernel
theorem dX11_undo_11 : decode cX11_undo 11 = .ok (.istore_n 1, 1) := by decide +kernel
theorem dX11_undo_12 : decode cX11_undo 12 = .ok (.iload_n 1, 1) := by decide +kernel
theorem dX11_undo_13 : decode cX11_undo 13 = .ok (.iconst (-1), 1) := by decide +kernel
theorem dX11_undo_14 : decode cX11_undo 14 = .ok (.if_icmp .ne 5, 3) := by decide +kernel
theorem dX11_undo_17 : decode cX11_undo 17 = .ok (.iconst 0, 1) := by decide +kernel
theorem dX11_undo_18 : decode cX11_undo 18 = .ok (.ireturn, 1) := by decide +kernel
theorem dX11_undo_19 : decode cX11_undo 19 = .ok (.aload_n 0, 1) := by decide +kernel
theorem dX11_undo_20 : decode cX11_undo 20 = .ok (.getfield 35, 3) := by decide +kernel
theorem dX11_undo_23 : decode cX11_undo 23 = .ok (.iload_n 1, 1) := by decide +kernel
theorem dX11_undo_24 : decode cX11_undo 24 = .ok (.invokevirtual 405, 3) := by decide +kernel
theorem dX11_undo_27 : decode cX11_undo 27 = .ok (.iconst 1, 1) := by decide +kernel
theorem dX11_undo_28 : decode cX11_undo 28 = .ok (.ireturn, 1) := by decide +kernel
theorem dX11_image_0 : decode cX11_image 0 = .ok (.iload_n 1, 1) := by decide +kernel
theorem dX11_image_1 : decode cX11_image 1 = .ok (.ifCond .eq 43, 3) := by decide +kernel
theorem dX11_image_4 : decode cX11_image 4 = .ok (.aload_n 0, 1) := by decide +kernel
theorem dX11_image_5 : decode cX11_image 5 = .ok (.getfield 97, 3) := by decide +kernel
theorem dX11_image_8 : decode cX11_image 8 = .ok (.aload_n 0, 1) := by decide +kernel
theorem dX11_image_9 : decode cX11_image 9 = .ok (.getfield 19, 3) := by decide +kernel
theorem dX11_image_12 : decode cX11_image 12 = .ok (.invokevirtual 274, 3) := by decide +kernel
theorem dX11_image_15 : decode cX11_image 15 = .ok (.aload_n 0, 1) := by decide +kernel
theorem dX11_image_16 : decode cX11_image 16 = .ok (.getfield 100, 3) := by decide +kernel
theorem dX11_image_19 : decode cX11_image 19 = .ok (.aload_n 0, 1) := by decide +kernel
theorem dX11_image_20 : decode cX11_image 20 = .ok (.getfield 26, 3) := by decide +kernel
theorem dX11_image_23 : decode cX11_image 23 = .ok (.invokevirtual 408, 3) := by decide +kernel
theorem dX11_image_26 : decode cX11_image 26 = .ok (.aload_n 0, 1) := by decide +kernel
theorem dX11_image_27 : decode cX11_image 27 = .ok (.getfield 103, 3) := by decide +kernel
theorem dX11_image_30 : decode cX11_image 30 = .ok (.aload_n 0, 1) := by decide +kernel
theorem dX11_image_31 : decode cX11_image 31 = .ok (.getfield 35, 3) := by decide +kernel
theorem dX11_image_34 : decode cX11_image 34 = .ok (.invokevirtual 228, 3) := by decide +kernel
theorem dX11_image_37 : decode cX11_image 37 = .ok (.aload_n 0, 1) := by decide +kernel
theorem dX11_image_38 : decode cX11_image 38 = .ok (.iconst 1, 1) := by decide +kernel
theorem dX11_image_39 : decode cX11_image 39 = .ok (.putfield 106, 3) := by decide +kernel
theorem dX11_image_42 : decode cX11_image 42 = .ok (.iconst 1, 1) := by decide +kernel
theorem dX11_image_43 : decode cX11_image 43 = .ok (.ireturn, 1) := by decide +kernel
theorem dX11_image_44 : decode cX11_image 44 = .ok (.aload_n 0, 1) := by decide +kernel
theorem dX11_image_45 : decode cX11_image 45 = .ok (.getfield 106, 3) := by decide +kernel
theorem dX11_image_48 : decode cX11_image 48 = .ok (.ifCond .ne 5, 3) := by decide +kernel
theorem dX11_image_51 : decode cX11_image 51 = .ok (.iconst 0, 1) := by decide +kernel
theorem dX11_image_52 : decode cX11_image 52 = .ok (.ireturn, 1) := by decide +kernel
theorem dX11_image_53 : decode cX11_image 53 = .ok (.aload_n 0, 1) := by decide +kernel
theorem dX11_image_54 : decode cX11_image 54 = .ok (.getfield 19, 3) := by decide +kernel
theorem dX11_image_57 : decode cX11_image 57 = .ok (.aload_n 0, 1) := by decide +kernel
theorem dX11_image_58 : decode cX11_image 58 = .ok (.getfield 97, 3) := by decide +kernel
theorem dX11_image_61 : decode cX11_image 61 = .ok (.invokevirtual 274, 3) := by decide +kernel
theorem dX11_image_64 : decode cX11_image 64 = .ok (.aload_n 0, 1) := by decide +kernel
theorem dX11_image_65 : decode cX11_image 65 = .ok (.getfield 26, 3) := by decide +kernel
theorem dX11_image_68 : decode cX11_image 68 = .ok (.aload_n 0, 1) := by decide +kernel
theorem dX11_image_69 : decode cX11_image 69 = .ok (.getfield 100, 3) := by decide +kernel
theorem dX11_image_72 : decode cX11_image 72 = .ok (.invokevirtual 408, 3) := by decide +kernel
theorem dX11_image_75 : decode cX11_image 75 = .ok (.aload_n 0, 1) := by decide +kernel
theorem dX11_image_76 : decode cX11_image 76 = .ok (.getfield 35, 3) := by decide +kernel
theorem dX11_image_79 : decode cX11_image 79 = .ok (.aload_n 0, 1) := by decide +kernel
theorem dX11_image_80 : decode cX11_image 80 = .ok (.getfield 103, 3) := by decide +kernel
theorem dX11_image_83 : decode cX11_image 83 = .ok (.invokevirtual 228, 3) := by decide +kernel
theorem dX11_image_86 : decode cX11_image 86 = .ok (.aload_n 0, 1) := by decide +kernel
theorem dX11_image_87 : decode cX11_image 87 = .ok (.getfield 42, 3) := by decide +kernel
theorem dX11_image_90 : decode cX11_image 90 = .ok (.invokevirtual 114, 3) := by decide +kernel
theorem dX11_image_93 : decode cX11_image 93 = .ok (.iconst 1, 1) := by decide +kernel
theorem dX11_image_94 : decode cX11_image 94 = .ok (.ireturn, 1) := by decide +kernel
theorem dX11_look_0 : decode cX11_look 0 = .ok (.iload_n 1, 1) := by decide +kernel
theorem dX11_look_1 : decode cX11_look 1 = .ok (.tableswitch 195 0 13 #[71, 79, 87, 95, 103, 111, 119, 127, 135, 143, 154, 165, 176, 187], 71) := by decide +kernel
theorem dX11_look_72 : decode cX11_look 72 = .ok (.aload_n 0, 1) := by decide +kernel
theorem dX11_look_73 : decode cX11_look 73 = .ok (.getfield 19, 3) := by decide +kernel
theorem dX11_look_76 : decode cX11_look 76 = .ok (.getfield 410, 3) := by decide +kernel
theorem dX11_look_79 : decode cX11_look 79 = .ok (.ireturn, 1) := by decide +kernel
theorem dX11_look_80 : decode cX11_look 80 = .ok (.aload_n 0, 1) := by decide +kernel
theorem dX11_look_81 : decode cX11_look 81 = .ok (.getfield 19, 3) := by decide +kernel
theorem dX11_look_84 : decode cX11_look 84 = .ok (.getfield 413, 3) := by decide +kernel
theorem dX11_look_87 : decode cX11_look 87 = .ok (.ireturn, 1) := by decide +kernel
theorem dX11_look_88 : decode cX11_look 88 = .ok (.aload_n 0, 1) := by decide +kernel
theorem dX11_look_89 : decode cX11_look 89 = .ok (.getfield 19, 3) := by decide +kernel
theorem dX11_look_92 : decode cX11_look 92 = .ok (.getfield 198, 3) := by decide +kernel
theorem dX11_look_95 : decode cX11_look 95 = .ok (.ireturn, 1) := by decide +kernel
theorem dX11_look_96 : decode cX11_look 96 = .ok (.aload_n 0, 1) := by decide +kernel
theorem dX11_look_97 : decode cX11_look 97 = .ok (.getfield 19, 3) := by decide +kernel
theorem dX11_look_100 : decode cX11_look 100 = .ok (.getfield 195, 3) := by decide +kernel
theorem dX11_look_103 : decode cX11_look 103 = .ok (.ireturn, 1) := by decide +kernel
theorem dX11_look_104 : decode cX11_look 104 = .ok (.aload_n 0, 1) := by decide +kernel
theorem dX11_look_105 : decode cX11_look 105 = .ok (.getfield 19, 3) := by decide +kernel
theorem dX11_look_108 : decode cX11_look 108 = .ok (.getfield 416, 3) := by decide +kernel
theorem dX11_look_111 : decode cX11_look 111 = .ok (.ireturn, 1) := by decide +kernel
theorem dX11_look_112 : decode cX11_look 112 = .ok (.aload_n 0, 1) := by decide +kernel
theorem dX11_look_113 : decode cX11_look 113 = .ok (.getfield 19, 3) := by decide +kernel
theorem dX11_look_116 : decode cX11_look 116 = .ok (.invokevirtual 419, 3) := by decide +kernel
theorem dX11_look_119 : decode cX11_look 119 = .ok (.ireturn, 1) := by decide +kernel
theorem dX11_look_120 : decode cX11_look 120 = .ok (.aload_n 0, 1) := by decide +kernel
theorem dX11_look_121 : decode cX11_look 121 = .ok (.getfield 19, 3) := by decide +kernel
theorem dX11_look_124 : decode cX11_look 124 = .ok (.invokevirtual 422, 3) := by decide +kernel
theorem dX11_look_127 : decode cX11_look 127 = .ok (.ireturn, 1) := by decide +kernel
theorem dX11_look_128 : decode cX11_look 128 = .ok (.aload_n 0, 1) := by decide +kernel
theorem dX11_look_129 : decode cX11_look 129 = .ok (.getfield 35, 3) := by decide +kernel
theorem dX11_look_132 : decode cX11_look 132 = .ok (.invokevirtual 173, 3) := by decide +kernel
theorem dX11_look_135 : decode cX11_look 135 = .ok (.ireturn, 1) := by decide +kernel
theorem dX11_look_136 : decode cX11_look 136 = .ok (.aload_n 0, 1) := by decide +kernel
theorem dX11_look_137 : decode cX11_look 137 = .ok (.getfield 19, 3) := by decide +kernel
theorem dX11_look_140 : decode cX11_look 140 = .ok (.getfield 110, 3) := by decide +kernel
theorem dX11_look_143 : decode cX11_look 143 = .ok (.ireturn, 1) := by decide +kernel
theorem dX11_look_144 : decode cX11_look 144 = .ok (.aload_n 0, 1) := by decide +kernel
theorem dX11_look_145 : decode cX11_look 145 = .ok (.getfield 26, 3) := by decide +kernel
theorem dX11_look_148 : decode cX11_look 148 = .ok (.getfield 425, 3) := by decide +kernel
theorem dX11_look_151 : decode cX11_look 151 = .ok (.invokevirtual 173, 3) := by decide +kernel
theorem dX11_look_154 : decode cX11_look 154 = .ok (.ireturn, 1) := by decide +kernel
theorem dX11_look_155 : decode cX11_look 155 = .ok (.aload_n 0, 1) := by decide +kernel
theorem dX11_look_156 : decode cX11_look 156 = .ok (.getfield 26, 3) := by decide +kernel
theorem dX11_look_159 : decode cX11_look 159 = .ok (.getfield 428, 3) := by decide +kernel
theorem dX11_look_162 : decode cX11_look 162 = .ok (.invokevirtual 173, 3) := by decide +kernel
theorem dX11_look_165 : decode cX11_look 165 = .ok (.ireturn, 1) := by decide +kernel
theorem dX11_look_166 : decode cX11_look 166 = .ok (.aload_n 0, 1) := by decide +kernel
theorem dX11_look_167 : decode cX11_look 167 = .ok (.getfield 26, 3) := by decide +kernel
theorem dX11_look_170 : decode cX11_look 170 = .ok (.getfield 431, 3) := by decide +kernel
theorem dX11_look_173 : decode cX11_look 173 = .ok (.invokevirtual 173, 3) := by decide +kernel
theorem dX11_look_176 : decode cX11_look 176 = .ok (.ireturn, 1) := by decide +kernel
theorem dX11_look_177 : decode cX11_look 177 = .ok (.aload_n 0, 1) := by decide +kernel
theorem dX11_look_178 : decode cX11_look 178 = .ok (.getfield 26, 3) := by decide +kernel
theorem dX11_look_181 : decode cX11_look 181 = .ok (.getfield 434, 3) := by decide +kernel
theorem dX11_look_184 : decode cX11_look 184 = .ok (.invokevirtual 173, 3) := by decide +kernel
theorem dX11_look_187 : decode cX11_look 187 = .ok (.ireturn, 1) := by decide +kernel
theorem dX11_look_188 : decode cX11_look 188 = .ok (.aload_n 0, 1) := by decide +kernel
theorem dX11_look_189 : decode cX11_look 189 = .ok (.getfield 42, 3) := by decide +kernel
theorem dX11_look_192 : decode cX11_look 192 = .ok (.invokevirtual 437, 3) := by decide +kernel
theorem dX11_look_195 : decode cX11_look 195 = .ok (.ireturn, 1) := by decide +kernel
theorem dX11_look_196 : decode cX11_look 196 = .ok (.iconst (-1), 1) := by decide +kernel
theorem dX11_look_197 : decode cX11_look 197 = .ok (.ireturn, 1) := by decide +kernel
theorem dX11_within_0 : decode cX11_within 0 = .ok (.iload_n 0, 1) := by decide +kernel
theorem dX11_within_1 : decode cX11_within 1 = .ok (.iload_n 1, 1) := by decide +kernel
theorem dX11_within_2 : decode cX11_within 2 = .ok (.if_icmp .lt 12, 3) := by decide +kernel
theorem dX11_within_5 : decode cX11_within 5 = .ok (.iload_n 0, 1) := by decide +kernel
theorem dX11_within_6 : decode cX11_within 6 = .ok (.iload_n 2, 1) := by decide +kernel
theorem dX11_within_7 : decode cX11_within 7 = .ok (.if_icmp .gt 7, 3) := by decide +kernel
theorem dX11_within_10 : decode cX11_within 10 = .ok (.iconst 1, 1) := by decide +kernel
theorem dX11_within_11 : decode cX11_within 11 = .ok (.goto 4, 3) := by decide +kernel
theorem dX11_within_14 : decode cX11_within 14 = .ok (.iconst 0, 1) := by decide +kernel
theorem dX11_within_15 : decode cX11_within 15 = .ok (.ireturn, 1) := by decide +kernel
