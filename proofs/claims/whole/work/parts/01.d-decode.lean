theorem d_R_is_0 : decode b_R_is 0 = .ok (.iload_n 1, 1) := by decide +kernel
theorem d_R_is_1 : decode b_R_is 1 = .ok (.ifCond .lt 15, 3) := by decide +kernel
theorem d_R_is_4 : decode b_R_is 4 = .ok (.iload_n 1, 1) := by decide +kernel
theorem d_R_is_5 : decode b_R_is 5 = .ok (.aload_n 0, 1) := by decide +kernel
theorem d_R_is_6 : decode b_R_is 6 = .ok (.getfield 83, 3) := by decide +kernel
theorem d_R_is_9 : decode b_R_is 9 = .ok (.if_icmp .ge 7, 3) := by decide +kernel
theorem d_R_is_12 : decode b_R_is 12 = .ok (.iconst 1, 1) := by decide +kernel
theorem d_R_is_13 : decode b_R_is 13 = .ok (.goto 4, 3) := by decide +kernel
theorem d_R_is_16 : decode b_R_is 16 = .ok (.iconst 0, 1) := by decide +kernel
theorem d_R_is_17 : decode b_R_is 17 = .ok (.ireturn, 1) := by decide +kernel
theorem d_R_pair_0 : decode b_R_pair 0 = .ok (.aload_n 0, 1) := by decide +kernel
theorem d_R_pair_1 : decode b_R_pair 1 = .ok (.iload_n 1, 1) := by decide +kernel
theorem d_R_pair_2 : decode b_R_pair 2 = .ok (.invokevirtual 87, 3) := by decide +kernel
theorem d_R_pair_5 : decode b_R_pair 5 = .ok (.ifCond .eq 20, 3) := by decide +kernel
theorem d_R_pair_8 : decode b_R_pair 8 = .ok (.aload_n 0, 1) := by decide +kernel
theorem d_R_pair_9 : decode b_R_pair 9 = .ok (.iload_n 2, 1) := by decide +kernel
theorem d_R_pair_10 : decode b_R_pair 10 = .ok (.invokevirtual 87, 3) := by decide +kernel
theorem d_R_pair_13 : decode b_R_pair 13 = .ok (.ifCond .eq 12, 3) := by decide +kernel
theorem d_R_pair_16 : decode b_R_pair 16 = .ok (.iload_n 1, 1) := by decide +kernel
theorem d_R_pair_17 : decode b_R_pair 17 = .ok (.iload_n 2, 1) := by decide +kernel
theorem d_R_pair_18 : decode b_R_pair 18 = .ok (.if_icmp .eq 7, 3) := by decide +kernel
theorem d_R_pair_21 : decode b_R_pair 21 = .ok (.iconst 1, 1) := by decide +kernel
theorem d_R_pair_22 : decode b_R_pair 22 = .ok (.goto 4, 3) := by decide +kernel
theorem d_R_pair_25 : decode b_R_pair 25 = .ok (.iconst 0, 1) := by decide +kernel
theorem d_R_pair_26 : decode b_R_pair 26 = .ok (.ireturn, 1) := by decide +kernel
theorem d_R_valueAt_0 : decode b_R_valueAt 0 = .ok (.iconst 0, 1) := by decide +kernel
theorem d_R_valueAt_1 : decode b_R_valueAt 1 = .ok (.istore_n 3, 1) := by decide +kernel
theorem d_R_valueAt_2 : decode b_R_valueAt 2 = .ok (.sipush 512, 3) := by decide +kernel
theorem d_R_valueAt_5 : decode b_R_valueAt 5 = .ok (.iload_n 1, 1) := by decide +kernel
theorem d_R_valueAt_6 : decode b_R_valueAt 6 = .ok (.imul, 1) := by decide +kernel
theorem d_R_valueAt_7 : decode b_R_valueAt 7 = .ok (.istore 4, 2) := by decide +kernel
theorem d_R_valueAt_9 : decode b_R_valueAt 9 = .ok (.iload 4, 2) := by decide +kernel
theorem d_R_valueAt_11 : decode b_R_valueAt 11 = .ok (.sipush 512, 3) := by decide +kernel
theorem d_R_valueAt_14 : decode b_R_valueAt 14 = .ok (.iload_n 1, 1) := by decide +kernel
theorem d_R_valueAt_15 : decode b_R_valueAt 15 = .ok (.imul, 1) := by decide +kernel
theorem d_R_valueAt_16 : decode b_R_valueAt 16 = .ok (.iload_n 2, 1) := by decide +kernel
theorem d_R_valueAt_17 : decode b_R_valueAt 17 = .ok (.iadd, 1) := by decide +kernel
theorem d_R_valueAt_18 : decode b_R_valueAt 18 = .ok (.if_icmp .ge 64, 3) := by decide +kernel
theorem d_R_valueAt_21 : decode b_R_valueAt 21 = .ok (.aload_n 0, 1) := by decide +kernel
theorem d_R_valueAt_22 : decode b_R_valueAt 22 = .ok (.getfield 13, 3) := by decide +kernel
theorem d_R_valueAt_25 : decode b_R_valueAt 25 = .ok (.iload 4, 2) := by decide +kernel
theorem d_R_valueAt_27 : decode b_R_valueAt 27 = .ok (.iaload, 1) := by decide +kernel
theorem d_R_valueAt_28 : decode b_R_valueAt 28 = .ok (.ifCond .ne 18, 3) := by decide +kernel
theorem d_R_valueAt_31 : decode b_R_valueAt 31 = .ok (.bipush 31, 2) := by decide +kernel
theorem d_R_valueAt_33 : decode b_R_valueAt 33 = .ok (.iload_n 3, 1) := by decide +kernel
theorem d_R_valueAt_34 : decode b_R_valueAt 34 = .ok (.imul, 1) := by decide +kernel
theorem d_R_valueAt_35 : decode b_R_valueAt 35 = .ok (.aload_n 0, 1) := by decide +kernel
theorem d_R_valueAt_36 : decode b_R_valueAt 36 = .ok (.getfield 16, 3) := by decide +kernel
theorem d_R_valueAt_39 : decode b_R_valueAt 39 = .ok (.iload 4, 2) := by decide +kernel
theorem d_R_valueAt_41 : decode b_R_valueAt 41 = .ok (.iaload, 1) := by decide +kernel
theorem d_R_valueAt_42 : decode b_R_valueAt 42 = .ok (.iadd, 1) := by decide +kernel
theorem d_R_valueAt_43 : decode b_R_valueAt 43 = .ok (.goto 32, 3) := by decide +kernel
theorem d_R_valueAt_46 : decode b_R_valueAt 46 = .ok (.aload_n 0, 1) := by decide +kernel
theorem d_R_valueAt_47 : decode b_R_valueAt 47 = .ok (.getfield 13, 3) := by decide +kernel
theorem d_R_valueAt_50 : decode b_R_valueAt 50 = .ok (.iload 4, 2) := by decide +kernel
theorem d_R_valueAt_52 : decode b_R_valueAt 52 = .ok (.iaload, 1) := by decide +kernel
theorem d_R_valueAt_53 : decode b_R_valueAt 53 = .ok (.iconst 2, 1) := by decide +kernel
theorem d_R_valueAt_54 : decode b_R_valueAt 54 = .ok (.if_icmp .ne 20, 3) := by decide +kernel
theorem d_R_valueAt_57 : decode b_R_valueAt 57 = .ok (.bipush 17, 2) := by decide +kernel
theorem d_R_valueAt_59 : decode b_R_valueAt 59 = .ok (.iload_n 3, 1) := by decide +kernel
theorem d_R_valueAt_60 : decode b_R_valueAt 60 = .ok (.imul, 1) := by decide +kernel
theorem d_R_valueAt_61 : decode b_R_valueAt 61 = .ok (.aload_n 0, 1) := by decide +kernel
theorem d_R_valueAt_62 : decode b_R_valueAt 62 = .ok (.getfield 22, 3) := by decide +kernel
theorem d_R_valueAt_65 : decode b_R_valueAt 65 = .ok (.iload 4, 2) := by decide +kernel
theorem d_R_valueAt_67 : decode b_R_valueAt 67 = .ok (.iaload, 1) := by decide +kernel
theorem d_R_valueAt_68 : decode b_R_valueAt 68 = .ok (.iadd, 1) := by decide +kernel
theorem d_R_valueAt_69 : decode b_R_valueAt 69 = .ok (.iconst 1, 1) := by decide +kernel
theorem d_R_valueAt_70 : decode b_R_valueAt 70 = .ok (.iadd, 1) := by decide +kernel
theorem d_R_valueAt_71 : decode b_R_valueAt 71 = .ok (.goto 4, 3) := by decide +kernel
theorem d_R_valueAt_74 : decode b_R_valueAt 74 = .ok (.iload_n 3, 1) := by decide +kernel
theorem d_R_valueAt_75 : decode b_R_valueAt 75 = .ok (.istore_n 3, 1) := by decide +kernel
theorem d_R_valueAt_76 : decode b_R_valueAt 76 = .ok (.iinc 4 1, 3) := by decide +kernel
theorem d_R_valueAt_79 : decode b_R_valueAt 79 = .ok (.goto (-70), 3) := by decide +kernel
theorem d_R_valueAt_82 : decode b_R_valueAt 82 = .ok (.iload_n 3, 1) := by decide +kernel
theorem d_R_valueAt_83 : decode b_R_valueAt 83 = .ok (.ireturn, 1) := by decide +kernel
theorem d_R_sentAt_0 : decode b_R_sentAt 0 = .ok (.iconst 0, 1) := by decide +kernel
theorem d_R_sentAt_1 : decode b_R_sentAt 1 = .ok (.istore 4, 2) := by decide +kernel
theorem d_R_sentAt_3 : decode b_R_sentAt 3 = .ok (.sipush 512, 3) := by decide +kernel
theorem d_R_sentAt_6 : decode b_R_sentAt 6 = .ok (.iload_n 1, 1) := by decide +kernel
theorem d_R_sentAt_7 : decode b_R_sentAt 7 = .ok (.imul, 1) := by decide +kernel
theorem d_R_sentAt_8 : decode b_R_sentAt 8 = .ok (.istore 5, 2) := by decide +kernel
theorem d_R_sentAt_10 : decode b_R_sentAt 10 = .ok (.iload 5, 2) := by decide +kernel
theorem d_R_sentAt_12 : decode b_R_sentAt 12 = .ok (.sipush 512, 3) := by decide +kernel
theorem d_R_sentAt_15 : decode b_R_sentAt 15 = .ok (.iload_n 1, 1) := by decide +kernel
theorem d_R_sentAt_16 : decode b_R_sentAt 16 = .ok (.imul, 1) := by decide +kernel
theorem d_R_sentAt_17 : decode b_R_sentAt 17 = .ok (.iload_n 3, 1) := by decide +kernel
theorem d_R_sentAt_18 : decode b_R_sentAt 18 = .ok (.iadd, 1) := by decide +kernel
theorem d_R_sentAt_19 : decode b_R_sentAt 19 = .ok (.if_icmp .ge 41, 3) := by decide +kernel
theorem d_R_sentAt_22 : decode b_R_sentAt 22 = .ok (.iload 4, 2) := by decide +kernel
theorem d_R_sentAt_24 : decode b_R_sentAt 24 = .ok (.aload_n 0, 1) := by decide +kernel
theorem d_R_sentAt_25 : decode b_R_sentAt 25 = .ok (.getfield 13, 3) := by decide +kernel
theorem d_R_sentAt_28 : decode b_R_sentAt 28 = .ok (.iload 5, 2) := by decide +kernel
theorem d_R_sentAt_30 : decode b_R_sentAt 30 = .ok (.iaload, 1) := by decide +kernel
theorem d_R_sentAt_31 : decode b_R_sentAt 31 = .ok (.iconst 1, 1) := by decide +kernel
theorem d_R_sentAt_32 : decode b_R_sentAt 32 = .ok (.if_icmp .ne 18, 3) := by decide +kernel
theorem d_R_sentAt_35 : decode b_R_sentAt 35 = .ok (.aload_n 0, 1) := by decide +kernel
theorem d_R_sentAt_36 : decode b_R_sentAt 36 = .ok (.getfield 16, 3) := by decide +kernel
theorem d_R_sentAt_39 : decode b_R_sentAt 39 = .ok (.iload 5, 2) := by decide +kernel
theorem d_R_sentAt_41 : decode b_R_sentAt 41 = .ok (.iaload, 1) := by decide +kernel
theorem d_R_sentAt_42 : decode b_R_sentAt 42 = .ok (.iload_n 2, 1) := by decide +kernel
theorem d_R_sentAt_43 : decode b_R_sentAt 43 = .ok (.if_icmp .ne 7, 3) := by decide +kernel
theorem d_R_sentAt_46 : decode b_R_sentAt 46 = .ok (.iconst 1, 1) := by decide +kernel
theorem d_R_sentAt_47 : decode b_R_sentAt 47 = .ok (.goto 4, 3) := by decide +kernel
theorem d_R_sentAt_50 : decode b_R_sentAt 50 = .ok (.iconst 0, 1) := by decide +kernel
theorem d_R_sentAt_51 : decode b_R_sentAt 51 = .ok (.iadd, 1) := by decide +kernel
theorem d_R_sentAt_52 : decode b_R_sentAt 52 = .ok (.istore 4, 2) := by decide +kernel
theorem d_R_sentAt_54 : decode b_R_sentAt 54 = .ok (.iinc 5 1, 3) := by decide +kernel
theorem d_R_sentAt_57 : decode b_R_sentAt 57 = .ok (.goto (-47), 3) := by decide +kernel
theorem d_R_sentAt_60 : decode b_R_sentAt 60 = .ok (.iload 4, 2) := by decide +kernel
theorem d_R_sentAt_62 : decode b_R_sentAt 62 = .ok (.ireturn, 1) := by decide +kernel
theorem d_R_receivedAt_0 : decode b_R_receivedAt 0 = .ok (.iconst 0, 1) := by decide +kernel
theorem d_R_receivedAt_1 : decode b_R_receivedAt 1 = .ok (.istore 4, 2) := by decide +kernel
theorem d_R_receivedAt_3 : decode b_R_receivedAt 3 = .ok (.sipush 512, 3) := by decide +kernel
theorem d_R_receivedAt_6 : decode b_R_receivedAt 6 = .ok (.iload_n 1, 1) := by decide +kernel
theorem d_R_receivedAt_7 : decode b_R_receivedAt 7 = .ok (.imul, 1) := by decide +kernel
theorem d_R_receivedAt_8 : decode b_R_receivedAt 8 = .ok (.istore 5, 2) := by decide +kernel
theorem d_R_receivedAt_10 : decode b_R_receivedAt 10 = .ok (.iload 5, 2) := by decide +kernel
theorem d_R_receivedAt_12 : decode b_R_receivedAt 12 = .ok (.sipush 512, 3) := by decide +kernel
theorem d_R_receivedAt_15 : decode b_R_receivedAt 15 = .ok (.iload_n 1, 1) := by decide +kernel
theorem d_R_receivedAt_16 : decode b_R_receivedAt 16 = .ok (.imul, 1) := by decide +kernel
theorem d_R_receivedAt_17 : decode b_R_receivedAt 17 = .ok (.iload_n 3, 1) := by decide +kernel
theorem d_R_receivedAt_18 : decode b_R_receivedAt 18 = .ok (.iadd, 1) := by decide +kernel
theorem d_R_receivedAt_19 : decode b_R_receivedAt 19 = .ok (.if_icmp .ge 45, 3) := by decide +kernel
theorem d_R_receivedAt_22 : decode b_R_receivedAt 22 = .ok (.aload_n 0, 1) := by decide +kernel
theorem d_R_receivedAt_23 : decode b_R_receivedAt 23 = .ok (.getfield 13, 3) := by decide +kernel
theorem d_R_receivedAt_26 : decode b_R_receivedAt 26 = .ok (.iload 5, 2) := by decide +kernel
theorem d_R_receivedAt_28 : decode b_R_receivedAt 28 = .ok (.iaload, 1) := by decide +kernel
theorem d_R_receivedAt_29 : decode b_R_receivedAt 29 = .ok (.iconst 2, 1) := by decide +kernel
theorem d_R_receivedAt_30 : decode b_R_receivedAt 30 = .ok (.if_icmp .ne 24, 3) := by decide +kernel
theorem d_R_receivedAt_33 : decode b_R_receivedAt 33 = .ok (.aload_n 0, 1) := by decide +kernel
theorem d_R_receivedAt_34 : decode b_R_receivedAt 34 = .ok (.getfield 16, 3) := by decide +kernel
theorem d_R_receivedAt_37 : decode b_R_receivedAt 37 = .ok (.iload 5, 2) := by decide +kernel
theorem d_R_receivedAt_39 : decode b_R_receivedAt 39 = .ok (.iaload, 1) := by decide +kernel
theorem d_R_receivedAt_40 : decode b_R_receivedAt 40 = .ok (.iload_n 2, 1) := by decide +kernel
theorem d_R_receivedAt_41 : decode b_R_receivedAt 41 = .ok (.if_icmp .ne 13, 3) := by decide +kernel
theorem d_R_receivedAt_44 : decode b_R_receivedAt 44 = .ok (.aload_n 0, 1) := by decide +kernel
theorem d_R_receivedAt_45 : decode b_R_receivedAt 45 = .ok (.getfield 19, 3) := by decide +kernel
theorem d_R_receivedAt_48 : decode b_R_receivedAt 48 = .ok (.iload 5, 2) := by decide +kernel
theorem d_R_receivedAt_50 : decode b_R_receivedAt 50 = .ok (.iaload, 1) := by decide +kernel
theorem d_R_receivedAt_51 : decode b_R_receivedAt 51 = .ok (.goto 5, 3) := by decide +kernel
theorem d_R_receivedAt_54 : decode b_R_receivedAt 54 = .ok (.iload 4, 2) := by decide +kernel
theorem d_R_receivedAt_56 : decode b_R_receivedAt 56 = .ok (.istore 4, 2) := by decide +kernel
theorem d_R_receivedAt_58 : decode b_R_receivedAt 58 = .ok (.iinc 5 1, 3) := by decide +kernel
theorem d_R_receivedAt_61 : decode b_R_receivedAt 61 = .ok (.goto (-51), 3) := by decide +kernel
theorem d_R_receivedAt_64 : decode b_R_receivedAt 64 = .ok (.iload 4, 2) := by decide +kernel
theorem d_R_receivedAt_66 : decode b_R_receivedAt 66 = .ok (.ireturn, 1) := by decide +kernel
theorem d_R_sentWith_0 : decode b_R_sentWith 0 = .ok (.iconst 0, 1) := by decide +kernel
theorem d_R_sentWith_1 : decode b_R_sentWith 1 = .ok (.istore 4, 2) := by decide +kernel
theorem d_R_sentWith_3 : decode b_R_sentWith 3 = .ok (.iconst 0, 1) := by decide +kernel
theorem d_R_sentWith_4 : decode b_R_sentWith 4 = .ok (.istore 5, 2) := by decide +kernel
theorem d_R_sentWith_6 : decode b_R_sentWith 6 = .ok (.iconst 0, 1) := by decide +kernel
theorem d_R_sentWith_7 : decode b_R_sentWith 7 = .ok (.istore 6, 2) := by decide +kernel
theorem d_R_sentWith_9 : decode b_R_sentWith 9 = .ok (.iload 6, 2) := by decide +kernel
theorem d_R_sentWith_11 : decode b_R_sentWith 11 = .ok (.aload_n 0, 1) := by decide +kernel
theorem d_R_sentWith_12 : decode b_R_sentWith 12 = .ok (.getfield 7, 3) := by decide +kernel
theorem d_R_sentWith_15 : decode b_R_sentWith 15 = .ok (.iload_n 1, 1) := by decide +kernel
theorem d_R_sentWith_16 : decode b_R_sentWith 16 = .ok (.iaload, 1) := by decide +kernel
theorem d_R_sentWith_17 : decode b_R_sentWith 17 = .ok (.if_icmp .ge 63, 3) := by decide +kernel
theorem d_R_sentWith_20 : decode b_R_sentWith 20 = .ok (.iload 5, 2) := by decide +kernel
theorem d_R_sentWith_22 : decode b_R_sentWith 22 = .ok (.iload_n 3, 1) := by decide +kernel
theorem d_R_sentWith_23 : decode b_R_sentWith 23 = .ok (.if_icmp .ge 57, 3) := by decide +kernel
theorem d_R_sentWith_26 : decode b_R_sentWith 26 = .ok (.iload 5, 2) := by decide +kernel
theorem d_R_sentWith_28 : decode b_R_sentWith 28 = .ok (.aload_n 0, 1) := by decide +kernel
theorem d_R_sentWith_29 : decode b_R_sentWith 29 = .ok (.getfield 13, 3) := by decide +kernel
theorem d_R_sentWith_32 : decode b_R_sentWith 32 = .ok (.sipush 512, 3) := by decide +kernel
theorem d_R_sentWith_35 : decode b_R_sentWith 35 = .ok (.iload_n 1, 1) := by decide +kernel
theorem d_R_sentWith_36 : decode b_R_sentWith 36 = .ok (.imul, 1) := by decide +kernel
theorem d_R_sentWith_37 : decode b_R_sentWith 37 = .ok (.iload 6, 2) := by decide +kernel
theorem d_R_sentWith_39 : decode b_R_sentWith 39 = .ok (.iadd, 1) := by decide +kernel
theorem d_R_sentWith_40 : decode b_R_sentWith 40 = .ok (.iaload, 1) := by decide +kernel
theorem d_R_sentWith_41 : decode b_R_sentWith 41 = .ok (.iconst 1, 1) := by decide +kernel
theorem d_R_sentWith_42 : decode b_R_sentWith 42 = .ok (.if_icmp .ne 24, 3) := by decide +kernel
theorem d_R_sentWith_45 : decode b_R_sentWith 45 = .ok (.aload_n 0, 1) := by decide +kernel
theorem d_R_sentWith_46 : decode b_R_sentWith 46 = .ok (.getfield 16, 3) := by decide +kernel
theorem d_R_sentWith_49 : decode b_R_sentWith 49 = .ok (.sipush 512, 3) := by decide +kernel
theorem d_R_sentWith_52 : decode b_R_sentWith 52 = .ok (.iload_n 1, 1) := by decide +kernel
theorem d_R_sentWith_53 : decode b_R_sentWith 53 = .ok (.imul, 1) := by decide +kernel
theorem d_R_sentWith_54 : decode b_R_sentWith 54 = .ok (.iload 6, 2) := by decide +kernel
theorem d_R_sentWith_56 : decode b_R_sentWith 56 = .ok (.iadd, 1) := by decide +kernel
theorem d_R_sentWith_57 : decode b_R_sentWith 57 = .ok (.iaload, 1) := by decide +kernel
theorem d_R_sentWith_58 : decode b_R_sentWith 58 = .ok (.iload_n 2, 1) := by decide +kernel
theorem d_R_sentWith_59 : decode b_R_sentWith 59 = .ok (.if_icmp .ne 7, 3) := by decide +kernel
theorem d_R_sentWith_62 : decode b_R_sentWith 62 = .ok (.iconst 1, 1) := by decide +kernel
theorem d_R_sentWith_63 : decode b_R_sentWith 63 = .ok (.goto 4, 3) := by decide +kernel
theorem d_R_sentWith_66 : decode b_R_sentWith 66 = .ok (.iconst 0, 1) := by decide +kernel
theorem d_R_sentWith_67 : decode b_R_sentWith 67 = .ok (.iadd, 1) := by decide +kernel
theorem d_R_sentWith_68 : decode b_R_sentWith 68 = .ok (.istore 5, 2) := by decide +kernel
theorem d_R_sentWith_70 : decode b_R_sentWith 70 = .ok (.iload 6, 2) := by decide +kernel
theorem d_R_sentWith_72 : decode b_R_sentWith 72 = .ok (.istore 4, 2) := by decide +kernel
theorem d_R_sentWith_74 : decode b_R_sentWith 74 = .ok (.iinc 6 1, 3) := by decide +kernel
theorem d_R_sentWith_77 : decode b_R_sentWith 77 = .ok (.goto (-68), 3) := by decide +kernel
theorem d_R_sentWith_80 : decode b_R_sentWith 80 = .ok (.aload_n 0, 1) := by decide +kernel
theorem d_R_sentWith_81 : decode b_R_sentWith 81 = .ok (.iload_n 1, 1) := by decide +kernel
theorem d_R_sentWith_82 : decode b_R_sentWith 82 = .ok (.iload 4, 2) := by decide +kernel
theorem d_R_sentWith_84 : decode b_R_sentWith 84 = .ok (.invokevirtual 91, 3) := by decide +kernel
theorem d_R_sentWith_87 : decode b_R_sentWith 87 = .ok (.ireturn, 1) := by decide +kernel
theorem d_R_inChannel_0 : decode b_R_inChannel 0 = .ok (.aload_n 0, 1) := by decide +kernel
theorem d_R_inChannel_1 : decode b_R_inChannel 1 = .ok (.iload_n 1, 1) := by decide +kernel
theorem d_R_inChannel_2 : decode b_R_inChannel 2 = .ok (.iload_n 2, 1) := by decide +kernel
theorem d_R_inChannel_3 : decode b_R_inChannel 3 = .ok (.aload_n 0, 1) := by decide +kernel
theorem d_R_inChannel_4 : decode b_R_inChannel 4 = .ok (.getfield 7, 3) := by decide +kernel
theorem d_R_inChannel_7 : decode b_R_inChannel 7 = .ok (.iload_n 1, 1) := by decide +kernel
theorem d_R_inChannel_8 : decode b_R_inChannel 8 = .ok (.iaload, 1) := by decide +kernel
theorem d_R_inChannel_9 : decode b_R_inChannel 9 = .ok (.invokevirtual 95, 3) := by decide +kernel
theorem d_R_inChannel_12 : decode b_R_inChannel 12 = .ok (.aload_n 0, 1) := by decide +kernel
theorem d_R_inChannel_13 : decode b_R_inChannel 13 = .ok (.getfield 31, 3) := by decide +kernel
theorem d_R_inChannel_16 : decode b_R_inChannel 16 = .ok (.iconst 5, 1) := by decide +kernel
theorem d_R_inChannel_17 : decode b_R_inChannel 17 = .ok (.iload_n 1, 1) := by decide +kernel
theorem d_R_inChannel_18 : decode b_R_inChannel 18 = .ok (.imul, 1) := by decide +kernel
theorem d_R_inChannel_19 : decode b_R_inChannel 19 = .ok (.iload_n 2, 1) := by decide +kernel
theorem d_R_inChannel_20 : decode b_R_inChannel 20 = .ok (.iadd, 1) := by decide +kernel
theorem d_R_inChannel_21 : decode b_R_inChannel 21 = .ok (.iaload, 1) := by decide +kernel
theorem d_R_inChannel_22 : decode b_R_inChannel 22 = .ok (.isub, 1) := by decide +kernel
theorem d_R_inChannel_23 : decode b_R_inChannel 23 = .ok (.ireturn, 1) := by decide +kernel
theorem d_R_note_0 : decode b_R_note 0 = .ok (.sipush 512, 3) := by decide +kernel
theorem d_R_note_3 : decode b_R_note 3 = .ok (.iload_n 1, 1) := by decide +kernel
theorem d_R_note_4 : decode b_R_note 4 = .ok (.imul, 1) := by decide +kernel
theorem d_R_note_5 : decode b_R_note 5 = .ok (.aload_n 0, 1) := by decide +kernel
theorem d_R_note_6 : decode b_R_note 6 = .ok (.getfield 7, 3) := by decide +kernel
theorem d_R_note_9 : decode b_R_note 9 = .ok (.iload_n 1, 1) := by decide +kernel
theorem d_R_note_10 : decode b_R_note 10 = .ok (.iaload, 1) := by decide +kernel
theorem d_R_note_11 : decode b_R_note 11 = .ok (.iadd, 1) := by decide +kernel
theorem d_R_note_12 : decode b_R_note 12 = .ok (.istore 6, 2) := by decide +kernel
theorem d_R_note_14 : decode b_R_note 14 = .ok (.aload_n 0, 1) := by decide +kernel
theorem d_R_note_15 : decode b_R_note 15 = .ok (.getfield 13, 3) := by decide +kernel
theorem d_R_note_18 : decode b_R_note 18 = .ok (.iload 6, 2) := by decide +kernel
theorem d_R_note_20 : decode b_R_note 20 = .ok (.iload_n 2, 1) := by decide +kernel
theorem d_R_note_21 : decode b_R_note 21 = .ok (.iastore, 1) := by decide +kernel
theorem d_R_note_22 : decode b_R_note 22 = .ok (.aload_n 0, 1) := by decide +kernel
theorem d_R_note_23 : decode b_R_note 23 = .ok (.getfield 16, 3) := by decide +kernel
theorem d_R_note_26 : decode b_R_note 26 = .ok (.iload 6, 2) := by decide +kernel
theorem d_R_note_28 : decode b_R_note 28 = .ok (.iload_n 3, 1) := by decide +kernel
theorem d_R_note_29 : decode b_R_note 29 = .ok (.iastore, 1) := by decide +kernel
theorem d_R_note_30 : decode b_R_note 30 = .ok (.aload_n 0, 1) := by decide +kernel
theorem d_R_note_31 : decode b_R_note 31 = .ok (.getfield 19, 3) := by decide +kernel
theorem d_R_note_34 : decode b_R_note 34 = .ok (.iload 6, 2) := by decide +kernel
theorem d_R_note_36 : decode b_R_note 36 = .ok (.iload 4, 2) := by decide +kernel
theorem d_R_note_38 : decode b_R_note 38 = .ok (.iastore, 1) := by decide +kernel
theorem d_R_note_39 : decode b_R_note 39 = .ok (.aload_n 0, 1) := by decide +kernel
theorem d_R_note_40 : decode b_R_note 40 = .ok (.getfield 22, 3) := by decide +kernel
theorem d_R_note_43 : decode b_R_note 43 = .ok (.iload 6, 2) := by decide +kernel
theorem d_R_note_45 : decode b_R_note 45 = .ok (.iload 5, 2) := by decide +kernel
theorem d_R_note_47 : decode b_R_note 47 = .ok (.iastore, 1) := by decide +kernel
theorem d_R_note_48 : decode b_R_note 48 = .ok (.aload_n 0, 1) := by decide +kernel
theorem d_R_note_49 : decode b_R_note 49 = .ok (.getfield 7, 3) := by decide +kernel
theorem d_R_note_52 : decode b_R_note 52 = .ok (.iload_n 1, 1) := by decide +kernel
theorem d_R_note_53 : decode b_R_note 53 = .ok (.dup2, 1) := by decide +kernel
theorem d_R_note_54 : decode b_R_note 54 = .ok (.iaload, 1) := by decide +kernel
theorem d_R_note_55 : decode b_R_note 55 = .ok (.iconst 1, 1) := by decide +kernel
theorem d_R_note_56 : decode b_R_note 56 = .ok (.iadd, 1) := by decide +kernel
theorem d_R_note_57 : decode b_R_note 57 = .ok (.iastore, 1) := by decide +kernel
theorem d_R_note_58 : decode b_R_note 58 = .ok (.iconst 0, 1) := by decide +kernel
theorem d_R_note_59 : decode b_R_note 59 = .ok (.ireturn, 1) := by decide +kernel
theorem d_R_stands_0 : decode b_R_stands 0 = .ok (.aload_n 0, 1) := by decide +kernel
theorem d_R_stands_1 : decode b_R_stands 1 = .ok (.getfield 38, 3) := by decide +kernel
theorem d_R_stands_4 : decode b_R_stands 4 = .ok (.iload_n 1, 1) := by decide +kernel
theorem d_R_stands_5 : decode b_R_stands 5 = .ok (.iaload, 1) := by decide +kernel
theorem d_R_stands_6 : decode b_R_stands 6 = .ok (.ifCond .le 16, 3) := by decide +kernel
theorem d_R_stands_9 : decode b_R_stands 9 = .ok (.aload_n 0, 1) := by decide +kernel
theorem d_R_stands_10 : decode b_R_stands 10 = .ok (.getfield 41, 3) := by decide +kernel
theorem d_R_stands_13 : decode b_R_stands 13 = .ok (.iload_n 1, 1) := by decide +kernel
theorem d_R_stands_14 : decode b_R_stands 14 = .ok (.baload, 1) := by decide +kernel
theorem d_R_stands_15 : decode b_R_stands 15 = .ok (.ifCond .eq 7, 3) := by decide +kernel
theorem d_R_stands_18 : decode b_R_stands 18 = .ok (.iconst 1, 1) := by decide +kernel
theorem d_R_stands_19 : decode b_R_stands 19 = .ok (.goto 4, 3) := by decide +kernel
theorem d_R_stands_22 : decode b_R_stands 22 = .ok (.iconst 0, 1) := by decide +kernel
theorem d_R_stands_23 : decode b_R_stands 23 = .ok (.ireturn, 1) := by decide +kernel
theorem d_R_work_0 : decode b_R_work 0 = .ok (.aload_n 0, 1) := by decide +kernel
theorem d_R_work_1 : decode b_R_work 1 = .ok (.iload_n 1, 1) := by decide +kernel
theorem d_R_work_2 : decode b_R_work 2 = .ok (.invokevirtual 87, 3) := by decide +kernel
theorem d_R_work_5 : decode b_R_work 5 = .ok (.ifCond .ne 5, 3) := by decide +kernel
theorem d_R_work_8 : decode b_R_work 8 = .ok (.iconst (-1), 1) := by decide +kernel
theorem d_R_work_9 : decode b_R_work 9 = .ok (.ireturn, 1) := by decide +kernel
theorem d_R_work_10 : decode b_R_work 10 = .ok (.aload_n 0, 1) := by decide +kernel
theorem d_R_work_11 : decode b_R_work 11 = .ok (.getfield 34, 3) := by decide +kernel
theorem d_R_work_14 : decode b_R_work 14 = .ok (.iload_n 1, 1) := by decide +kernel
theorem d_R_work_15 : decode b_R_work 15 = .ok (.baload, 1) := by decide +kernel
theorem d_R_work_16 : decode b_R_work 16 = .ok (.ifCond .eq 8, 3) := by decide +kernel
theorem d_R_work_19 : decode b_R_work 19 = .ok (.bipush (-2), 2) := by decide +kernel
theorem d_R_work_21 : decode b_R_work 21 = .ok (.goto 25, 3) := by decide +kernel
theorem d_R_work_24 : decode b_R_work 24 = .ok (.aload_n 0, 1) := by decide +kernel
theorem d_R_work_25 : decode b_R_work 25 = .ok (.iload_n 1, 1) := by decide +kernel
theorem d_R_work_26 : decode b_R_work 26 = .ok (.invokevirtual 99, 3) := by decide +kernel
theorem d_R_work_29 : decode b_R_work 29 = .ok (.ifCond .eq 8, 3) := by decide +kernel
theorem d_R_work_32 : decode b_R_work 32 = .ok (.bipush (-3), 2) := by decide +kernel
theorem d_R_work_34 : decode b_R_work 34 = .ok (.goto 12, 3) := by decide +kernel
theorem d_R_work_37 : decode b_R_work 37 = .ok (.aload_n 0, 1) := by decide +kernel
theorem d_R_work_38 : decode b_R_work 38 = .ok (.iload_n 1, 1) := by decide +kernel
theorem d_R_work_39 : decode b_R_work 39 = .ok (.iconst 0, 1) := by decide +kernel
theorem d_R_work_40 : decode b_R_work 40 = .ok (.iload_n 2, 1) := by decide +kernel
theorem d_R_work_41 : decode b_R_work 41 = .ok (.iconst 0, 1) := by decide +kernel
theorem d_R_work_42 : decode b_R_work 42 = .ok (.iconst 0, 1) := by decide +kernel
theorem d_R_work_43 : decode b_R_work 43 = .ok (.invokevirtual 102, 3) := by decide +kernel
theorem d_R_work_46 : decode b_R_work 46 = .ok (.ireturn, 1) := by decide +kernel
theorem d_R_send_0 : decode b_R_send 0 = .ok (.aload_n 0, 1) := by decide +kernel
theorem d_R_send_1 : decode b_R_send 1 = .ok (.iload_n 1, 1) := by decide +kernel
theorem d_R_send_2 : decode b_R_send 2 = .ok (.iload_n 2, 1) := by decide +kernel
theorem d_R_send_3 : decode b_R_send 3 = .ok (.invokevirtual 106, 3) := by decide +kernel
theorem d_R_send_6 : decode b_R_send 6 = .ok (.ifCond .ne 5, 3) := by decide +kernel
theorem d_R_send_9 : decode b_R_send 9 = .ok (.iconst (-1), 1) := by decide +kernel
theorem d_R_send_10 : decode b_R_send 10 = .ok (.ireturn, 1) := by decide +kernel
theorem d_R_send_11 : decode b_R_send 11 = .ok (.aload_n 0, 1) := by decide +kernel
theorem d_R_send_12 : decode b_R_send 12 = .ok (.getfield 34, 3) := by decide +kernel
theorem d_R_send_15 : decode b_R_send 15 = .ok (.iload_n 1, 1) := by decide +kernel
theorem d_R_send_16 : decode b_R_send 16 = .ok (.baload, 1) := by decide +kernel
theorem d_R_send_17 : decode b_R_send 17 = .ok (.ifCond .ne 12, 3) := by decide +kernel
theorem d_R_send_20 : decode b_R_send 20 = .ok (.aload_n 0, 1) := by decide +kernel
theorem d_R_send_21 : decode b_R_send 21 = .ok (.getfield 38, 3) := by decide +kernel
theorem d_R_send_24 : decode b_R_send 24 = .ok (.iload_n 1, 1) := by decide +kernel
theorem d_R_send_25 : decode b_R_send 25 = .ok (.iaload, 1) := by decide +kernel
theorem d_R_send_26 : decode b_R_send 26 = .ok (.ifCond .le 20, 3) := by decide +kernel
theorem d_R_send_29 : decode b_R_send 29 = .ok (.aload_n 0, 1) := by decide +kernel
theorem d_R_send_30 : decode b_R_send 30 = .ok (.getfield 34, 3) := by decide +kernel
theorem d_R_send_33 : decode b_R_send 33 = .ok (.iload_n 1, 1) := by decide +kernel
theorem d_R_send_34 : decode b_R_send 34 = .ok (.baload, 1) := by decide +kernel
theorem d_R_send_35 : decode b_R_send 35 = .ok (.ifCond .eq 8, 3) := by decide +kernel
theorem d_R_send_38 : decode b_R_send 38 = .ok (.bipush (-2), 2) := by decide +kernel
theorem d_R_send_40 : decode b_R_send 40 = .ok (.goto 5, 3) := by decide +kernel
theorem d_R_send_43 : decode b_R_send 43 = .ok (.bipush (-3), 2) := by decide +kernel
theorem d_R_send_45 : decode b_R_send 45 = .ok (.ireturn, 1) := by decide +kernel
theorem d_R_send_46 : decode b_R_send 46 = .ok (.aload_n 0, 1) := by decide +kernel
theorem d_R_send_47 : decode b_R_send 47 = .ok (.iload_n 1, 1) := by decide +kernel
theorem d_R_send_48 : decode b_R_send 48 = .ok (.iload_n 2, 1) := by decide +kernel
theorem d_R_send_49 : decode b_R_send 49 = .ok (.invokevirtual 110, 3) := by decide +kernel
theorem d_R_send_52 : decode b_R_send 52 = .ok (.bipush 6, 2) := by decide +kernel
theorem d_R_send_54 : decode b_R_send 54 = .ok (.if_icmp .ne 6, 3) := by decide +kernel
theorem d_R_send_57 : decode b_R_send 57 = .ok (.bipush (-4), 2) := by decide +kernel
theorem d_R_send_59 : decode b_R_send 59 = .ok (.ireturn, 1) := by decide +kernel
theorem d_R_send_60 : decode b_R_send 60 = .ok (.aload_n 0, 1) := by decide +kernel
theorem d_R_send_61 : decode b_R_send 61 = .ok (.iload_n 1, 1) := by decide +kernel
theorem d_R_send_62 : decode b_R_send 62 = .ok (.iconst 1, 1) := by decide +kernel
theorem d_R_send_63 : decode b_R_send 63 = .ok (.iload_n 2, 1) := by decide +kernel
theorem d_R_send_64 : decode b_R_send 64 = .ok (.iconst 0, 1) := by decide +kernel
theorem d_R_send_65 : decode b_R_send 65 = .ok (.iconst 0, 1) := by decide +kernel
theorem d_R_send_66 : decode b_R_send 66 = .ok (.invokevirtual 102, 3) := by decide +kernel
theorem d_R_send_69 : decode b_R_send 69 = .ok (.pop, 1) := by decide +kernel
theorem d_R_send_70 : decode b_R_send 70 = .ok (.aload_n 0, 1) := by decide +kernel
theorem d_R_send_71 : decode b_R_send 71 = .ok (.iload_n 1, 1) := by decide +kernel
theorem d_R_send_72 : decode b_R_send 72 = .ok (.iload_n 2, 1) := by decide +kernel
theorem d_R_send_73 : decode b_R_send 73 = .ok (.aload_n 0, 1) := by decide +kernel
theorem d_R_send_74 : decode b_R_send 74 = .ok (.getfield 7, 3) := by decide +kernel
theorem d_R_send_77 : decode b_R_send 77 = .ok (.iload_n 1, 1) := by decide +kernel
theorem d_R_send_78 : decode b_R_send 78 = .ok (.iaload, 1) := by decide +kernel
theorem d_R_send_79 : decode b_R_send 79 = .ok (.invokevirtual 95, 3) := by decide +kernel
theorem d_R_send_82 : decode b_R_send 82 = .ok (.ireturn, 1) := by decide +kernel
theorem d_R_receive_0 : decode b_R_receive 0 = .ok (.aload_n 0, 1) := by decide +kernel
theorem d_R_receive_1 : decode b_R_receive 1 = .ok (.iload_n 1, 1) := by decide +kernel
theorem d_R_receive_2 : decode b_R_receive 2 = .ok (.iload_n 2, 1) := by decide +kernel
theorem d_R_receive_3 : decode b_R_receive 3 = .ok (.invokevirtual 106, 3) := by decide +kernel
theorem d_R_receive_6 : decode b_R_receive 6 = .ok (.ifCond .ne 5, 3) := by decide +kernel
theorem d_R_receive_9 : decode b_R_receive 9 = .ok (.iconst (-1), 1) := by decide +kernel
theorem d_R_receive_10 : decode b_R_receive 10 = .ok (.ireturn, 1) := by decide +kernel
theorem d_R_receive_11 : decode b_R_receive 11 = .ok (.aload_n 0, 1) := by decide +kernel
theorem d_R_receive_12 : decode b_R_receive 12 = .ok (.getfield 34, 3) := by decide +kernel
theorem d_R_receive_15 : decode b_R_receive 15 = .ok (.iload_n 2, 1) := by decide +kernel
theorem d_R_receive_16 : decode b_R_receive 16 = .ok (.baload, 1) := by decide +kernel
theorem d_R_receive_17 : decode b_R_receive 17 = .ok (.ifCond .ne 28, 3) := by decide +kernel
theorem d_R_receive_20 : decode b_R_receive 20 = .ok (.aload_n 0, 1) := by decide +kernel
theorem d_R_receive_21 : decode b_R_receive 21 = .ok (.iload_n 2, 1) := by decide +kernel
theorem d_R_receive_22 : decode b_R_receive 22 = .ok (.invokevirtual 99, 3) := by decide +kernel
theorem d_R_receive_25 : decode b_R_receive 25 = .ok (.ifCond .ne 20, 3) := by decide +kernel
theorem d_R_receive_28 : decode b_R_receive 28 = .ok (.aload_n 0, 1) := by decide +kernel
theorem d_R_receive_29 : decode b_R_receive 29 = .ok (.getfield 34, 3) := by decide +kernel
theorem d_R_receive_32 : decode b_R_receive 32 = .ok (.iload_n 1, 1) := by decide +kernel
theorem d_R_receive_33 : decode b_R_receive 33 = .ok (.baload, 1) := by decide +kernel
theorem d_R_receive_34 : decode b_R_receive 34 = .ok (.ifCond .ne 11, 3) := by decide +kernel
theorem d_R_receive_37 : decode b_R_receive 37 = .ok (.aload_n 0, 1) := by decide +kernel
theorem d_R_receive_38 : decode b_R_receive 38 = .ok (.iload_n 1, 1) := by decide +kernel
theorem d_R_receive_39 : decode b_R_receive 39 = .ok (.invokevirtual 99, 3) := by decide +kernel
theorem d_R_receive_42 : decode b_R_receive 42 = .ok (.ifCond .eq 20, 3) := by decide +kernel
theorem d_R_receive_45 : decode b_R_receive 45 = .ok (.aload_n 0, 1) := by decide +kernel
theorem d_R_receive_46 : decode b_R_receive 46 = .ok (.getfield 34, 3) := by decide +kernel
theorem d_R_receive_49 : decode b_R_receive 49 = .ok (.iload_n 2, 1) := by decide +kernel
theorem d_R_receive_50 : decode b_R_receive 50 = .ok (.baload, 1) := by decide +kernel
theorem d_R_receive_51 : decode b_R_receive 51 = .ok (.ifCond .eq 8, 3) := by decide +kernel
theorem d_R_receive_54 : decode b_R_receive 54 = .ok (.bipush (-2), 2) := by decide +kernel
theorem d_R_receive_56 : decode b_R_receive 56 = .ok (.goto 5, 3) := by decide +kernel
theorem d_R_receive_59 : decode b_R_receive 59 = .ok (.bipush (-3), 2) := by decide +kernel
theorem d_R_receive_61 : decode b_R_receive 61 = .ok (.ireturn, 1) := by decide +kernel
theorem d_R_receive_62 : decode b_R_receive 62 = .ok (.aload_n 0, 1) := by decide +kernel
theorem d_R_receive_63 : decode b_R_receive 63 = .ok (.iload_n 1, 1) := by decide +kernel
theorem d_R_receive_64 : decode b_R_receive 64 = .ok (.iload_n 2, 1) := by decide +kernel
theorem d_R_receive_65 : decode b_R_receive 65 = .ok (.invokevirtual 110, 3) := by decide +kernel
theorem d_R_receive_68 : decode b_R_receive 68 = .ok (.ifCond .ne 6, 3) := by decide +kernel
theorem d_R_receive_71 : decode b_R_receive 71 = .ok (.bipush (-4), 2) := by decide +kernel
theorem d_R_receive_73 : decode b_R_receive 73 = .ok (.ireturn, 1) := by decide +kernel
theorem d_R_receive_74 : decode b_R_receive 74 = .ok (.aload_n 0, 1) := by decide +kernel
theorem d_R_receive_75 : decode b_R_receive 75 = .ok (.getfield 31, 3) := by decide +kernel
theorem d_R_receive_78 : decode b_R_receive 78 = .ok (.iconst 5, 1) := by decide +kernel
theorem d_R_receive_79 : decode b_R_receive 79 = .ok (.iload_n 1, 1) := by decide +kernel
theorem d_R_receive_80 : decode b_R_receive 80 = .ok (.imul, 1) := by decide +kernel
theorem d_R_receive_81 : decode b_R_receive 81 = .ok (.iload_n 2, 1) := by decide +kernel
theorem d_R_receive_82 : decode b_R_receive 82 = .ok (.iadd, 1) := by decide +kernel
theorem d_R_receive_83 : decode b_R_receive 83 = .ok (.iaload, 1) := by decide +kernel
theorem d_R_receive_84 : decode b_R_receive 84 = .ok (.iconst 1, 1) := by decide +kernel
theorem d_R_receive_85 : decode b_R_receive 85 = .ok (.iadd, 1) := by decide +kernel
theorem d_R_receive_86 : decode b_R_receive 86 = .ok (.istore_n 3, 1) := by decide +kernel
theorem d_R_receive_87 : decode b_R_receive 87 = .ok (.aload_n 0, 1) := by decide +kernel
theorem d_R_receive_88 : decode b_R_receive 88 = .ok (.iload_n 1, 1) := by decide +kernel
theorem d_R_receive_89 : decode b_R_receive 89 = .ok (.iload_n 2, 1) := by decide +kernel
theorem d_R_receive_90 : decode b_R_receive 90 = .ok (.iload_n 3, 1) := by decide +kernel
theorem d_R_receive_91 : decode b_R_receive 91 = .ok (.invokevirtual 113, 3) := by decide +kernel
theorem d_R_receive_94 : decode b_R_receive 94 = .ok (.istore 4, 2) := by decide +kernel
theorem d_R_receive_96 : decode b_R_receive 96 = .ok (.aload_n 0, 1) := by decide +kernel
theorem d_R_receive_97 : decode b_R_receive 97 = .ok (.iload_n 2, 1) := by decide +kernel
theorem d_R_receive_98 : decode b_R_receive 98 = .ok (.iconst 2, 1) := by decide +kernel
theorem d_R_receive_99 : decode b_R_receive 99 = .ok (.iload_n 1, 1) := by decide +kernel
theorem d_R_receive_100 : decode b_R_receive 100 = .ok (.iload_n 3, 1) := by decide +kernel
theorem d_R_receive_101 : decode b_R_receive 101 = .ok (.iload 4, 2) := by decide +kernel
theorem d_R_receive_103 : decode b_R_receive 103 = .ok (.invokevirtual 102, 3) := by decide +kernel
theorem d_R_receive_106 : decode b_R_receive 106 = .ok (.pop, 1) := by decide +kernel
theorem d_R_receive_107 : decode b_R_receive 107 = .ok (.aload_n 0, 1) := by decide +kernel
theorem d_R_receive_108 : decode b_R_receive 108 = .ok (.getfield 31, 3) := by decide +kernel
theorem d_R_receive_111 : decode b_R_receive 111 = .ok (.iconst 5, 1) := by decide +kernel
theorem d_R_receive_112 : decode b_R_receive 112 = .ok (.iload_n 1, 1) := by decide +kernel
theorem d_R_receive_113 : decode b_R_receive 113 = .ok (.imul, 1) := by decide +kernel
theorem d_R_receive_114 : decode b_R_receive 114 = .ok (.iload_n 2, 1) := by decide +kernel
theorem d_R_receive_115 : decode b_R_receive 115 = .ok (.iadd, 1) := by decide +kernel
theorem d_R_receive_116 : decode b_R_receive 116 = .ok (.iload_n 3, 1) := by decide +kernel
theorem d_R_receive_117 : decode b_R_receive 117 = .ok (.iastore, 1) := by decide +kernel
theorem d_R_receive_118 : decode b_R_receive 118 = .ok (.iload_n 3, 1) := by decide +kernel
theorem d_R_receive_119 : decode b_R_receive 119 = .ok (.ireturn, 1) := by decide +kernel
theorem d_R_lose_0 : decode b_R_lose 0 = .ok (.aload_n 0, 1) := by decide +kernel
theorem d_R_lose_1 : decode b_R_lose 1 = .ok (.iload_n 1, 1) := by decide +kernel
theorem d_R_lose_2 : decode b_R_lose 2 = .ok (.iload_n 2, 1) := by decide +kernel
theorem d_R_lose_3 : decode b_R_lose 3 = .ok (.invokevirtual 106, 3) := by decide +kernel
theorem d_R_lose_6 : decode b_R_lose 6 = .ok (.ifCond .ne 5, 3) := by decide +kernel
theorem d_R_lose_9 : decode b_R_lose 9 = .ok (.iconst (-1), 1) := by decide +kernel
theorem d_R_lose_10 : decode b_R_lose 10 = .ok (.ireturn, 1) := by decide +kernel
theorem d_R_lose_11 : decode b_R_lose 11 = .ok (.aload_n 0, 1) := by decide +kernel
theorem d_R_lose_12 : decode b_R_lose 12 = .ok (.iload_n 1, 1) := by decide +kernel
theorem d_R_lose_13 : decode b_R_lose 13 = .ok (.iload_n 2, 1) := by decide +kernel
theorem d_R_lose_14 : decode b_R_lose 14 = .ok (.invokevirtual 110, 3) := by decide +kernel
theorem d_R_lose_17 : decode b_R_lose 17 = .ok (.ifCond .ne 6, 3) := by decide +kernel
theorem d_R_lose_20 : decode b_R_lose 20 = .ok (.bipush (-4), 2) := by decide +kernel
theorem d_R_lose_22 : decode b_R_lose 22 = .ok (.ireturn, 1) := by decide +kernel
theorem d_R_lose_23 : decode b_R_lose 23 = .ok (.aload_n 0, 1) := by decide +kernel
theorem d_R_lose_24 : decode b_R_lose 24 = .ok (.getfield 31, 3) := by decide +kernel
theorem d_R_lose_27 : decode b_R_lose 27 = .ok (.iconst 5, 1) := by decide +kernel
theorem d_R_lose_28 : decode b_R_lose 28 = .ok (.iload_n 1, 1) := by decide +kernel
theorem d_R_lose_29 : decode b_R_lose 29 = .ok (.imul, 1) := by decide +kernel
theorem d_R_lose_30 : decode b_R_lose 30 = .ok (.iload_n 2, 1) := by decide +kernel
theorem d_R_lose_31 : decode b_R_lose 31 = .ok (.iadd, 1) := by decide +kernel
theorem d_R_lose_32 : decode b_R_lose 32 = .ok (.dup2, 1) := by decide +kernel
theorem d_R_lose_33 : decode b_R_lose 33 = .ok (.iaload, 1) := by decide +kernel
theorem d_R_lose_34 : decode b_R_lose 34 = .ok (.iconst 1, 1) := by decide +kernel
theorem d_R_lose_35 : decode b_R_lose 35 = .ok (.iadd, 1) := by decide +kernel
theorem d_R_lose_36 : decode b_R_lose 36 = .ok (.iastore, 1) := by decide +kernel
theorem d_R_lose_37 : decode b_R_lose 37 = .ok (.aload_n 0, 1) := by decide +kernel
theorem d_R_lose_38 : decode b_R_lose 38 = .ok (.getfield 31, 3) := by decide +kernel
theorem d_R_lose_41 : decode b_R_lose 41 = .ok (.iconst 5, 1) := by decide +kernel
theorem d_R_lose_42 : decode b_R_lose 42 = .ok (.iload_n 1, 1) := by decide +kernel
theorem d_R_lose_43 : decode b_R_lose 43 = .ok (.imul, 1) := by decide +kernel
theorem d_R_lose_44 : decode b_R_lose 44 = .ok (.iload_n 2, 1) := by decide +kernel
theorem d_R_lose_45 : decode b_R_lose 45 = .ok (.iadd, 1) := by decide +kernel
theorem d_R_lose_46 : decode b_R_lose 46 = .ok (.iaload, 1) := by decide +kernel
theorem d_R_lose_47 : decode b_R_lose 47 = .ok (.ireturn, 1) := by decide +kernel
theorem d_R_write_0 : decode b_R_write 0 = .ok (.aload_n 0, 1) := by decide +kernel
theorem d_R_write_1 : decode b_R_write 1 = .ok (.getfield 59, 3) := by decide +kernel
theorem d_R_write_4 : decode b_R_write 4 = .ok (.aload_n 0, 1) := by decide +kernel
theorem d_R_write_5 : decode b_R_write 5 = .ok (.getfield 116, 3) := by decide +kernel
theorem d_R_write_8 : decode b_R_write 8 = .ok (.iload_n 1, 1) := by decide +kernel
theorem d_R_write_9 : decode b_R_write 9 = .ok (.iastore, 1) := by decide +kernel
theorem d_R_write_10 : decode b_R_write 10 = .ok (.aload_n 0, 1) := by decide +kernel
theorem d_R_write_11 : decode b_R_write 11 = .ok (.getfield 62, 3) := by decide +kernel
theorem d_R_write_14 : decode b_R_write 14 = .ok (.aload_n 0, 1) := by decide +kernel
theorem d_R_write_15 : decode b_R_write 15 = .ok (.getfield 116, 3) := by decide +kernel
theorem d_R_write_18 : decode b_R_write 18 = .ok (.iload_n 2, 1) := by decide +kernel
theorem d_R_write_19 : decode b_R_write 19 = .ok (.iastore, 1) := by decide +kernel
theorem d_R_write_20 : decode b_R_write 20 = .ok (.aload_n 0, 1) := by decide +kernel
theorem d_R_write_21 : decode b_R_write 21 = .ok (.getfield 65, 3) := by decide +kernel
theorem d_R_write_24 : decode b_R_write 24 = .ok (.aload_n 0, 1) := by decide +kernel
theorem d_R_write_25 : decode b_R_write 25 = .ok (.getfield 116, 3) := by decide +kernel
theorem d_R_write_28 : decode b_R_write 28 = .ok (.iload_n 3, 1) := by decide +kernel
theorem d_R_write_29 : decode b_R_write 29 = .ok (.iastore, 1) := by decide +kernel
theorem d_R_write_30 : decode b_R_write 30 = .ok (.aload_n 0, 1) := by decide +kernel
theorem d_R_write_31 : decode b_R_write 31 = .ok (.getfield 68, 3) := by decide +kernel
theorem d_R_write_34 : decode b_R_write 34 = .ok (.aload_n 0, 1) := by decide +kernel
theorem d_R_write_35 : decode b_R_write 35 = .ok (.getfield 116, 3) := by decide +kernel
theorem d_R_write_38 : decode b_R_write 38 = .ok (.aload_n 0, 1) := by decide +kernel
theorem d_R_write_39 : decode b_R_write 39 = .ok (.getfield 38, 3) := by decide +kernel
theorem d_R_write_42 : decode b_R_write 42 = .ok (.iload_n 2, 1) := by decide +kernel
theorem d_R_write_43 : decode b_R_write 43 = .ok (.iaload, 1) := by decide +kernel
theorem d_R_write_44 : decode b_R_write 44 = .ok (.iastore, 1) := by decide +kernel
theorem d_R_write_45 : decode b_R_write 45 = .ok (.aload_n 0, 1) := by decide +kernel
theorem d_R_write_46 : decode b_R_write 46 = .ok (.getfield 71, 3) := by decide +kernel
theorem d_R_write_49 : decode b_R_write 49 = .ok (.aload_n 0, 1) := by decide +kernel
theorem d_R_write_50 : decode b_R_write 50 = .ok (.getfield 116, 3) := by decide +kernel
theorem d_R_write_53 : decode b_R_write 53 = .ok (.aload_n 0, 1) := by decide +kernel
theorem d_R_write_54 : decode b_R_write 54 = .ok (.getfield 41, 3) := by decide +kernel
theorem d_R_write_57 : decode b_R_write 57 = .ok (.iload_n 2, 1) := by decide +kernel
theorem d_R_write_58 : decode b_R_write 58 = .ok (.baload, 1) := by decide +kernel
theorem d_R_write_59 : decode b_R_write 59 = .ok (.bastore, 1) := by decide +kernel
theorem d_R_write_60 : decode b_R_write 60 = .ok (.aload_n 0, 1) := by decide +kernel
theorem d_R_write_61 : decode b_R_write 61 = .ok (.getfield 74, 3) := by decide +kernel
theorem d_R_write_64 : decode b_R_write 64 = .ok (.aload_n 0, 1) := by decide +kernel
theorem d_R_write_65 : decode b_R_write 65 = .ok (.getfield 116, 3) := by decide +kernel
theorem d_R_write_68 : decode b_R_write 68 = .ok (.iload 4, 2) := by decide +kernel
theorem d_R_write_70 : decode b_R_write 70 = .ok (.iastore, 1) := by decide +kernel
theorem d_R_write_71 : decode b_R_write 71 = .ok (.aload_n 0, 1) := by decide +kernel
theorem d_R_write_72 : decode b_R_write 72 = .ok (.dup, 1) := by decide +kernel
theorem d_R_write_73 : decode b_R_write 73 = .ok (.getfield 116, 3) := by decide +kernel
theorem d_R_write_76 : decode b_R_write 76 = .ok (.iconst 1, 1) := by decide +kernel
theorem d_R_write_77 : decode b_R_write 77 = .ok (.iadd, 1) := by decide +kernel
theorem d_R_write_78 : decode b_R_write 78 = .ok (.putfield 116, 3) := by decide +kernel
theorem d_R_write_81 : decode b_R_write 81 = .ok (.return_, 1) := by decide +kernel
theorem d_R_asks_0 : decode b_R_asks 0 = .ok (.iload_n 1, 1) := by decide +kernel
theorem d_R_asks_1 : decode b_R_asks 1 = .ok (.iload_n 2, 1) := by decide +kernel
theorem d_R_asks_2 : decode b_R_asks 2 = .ok (.if_icmp .eq 43, 3) := by decide +kernel
theorem d_R_asks_5 : decode b_R_asks 5 = .ok (.aload_n 0, 1) := by decide +kernel
theorem d_R_asks_6 : decode b_R_asks 6 = .ok (.getfield 41, 3) := by decide +kernel
theorem d_R_asks_9 : decode b_R_asks 9 = .ok (.iload_n 1, 1) := by decide +kernel
theorem d_R_asks_10 : decode b_R_asks 10 = .ok (.baload, 1) := by decide +kernel
theorem d_R_asks_11 : decode b_R_asks 11 = .ok (.ifCond .ne 30, 3) := by decide +kernel
theorem d_R_asks_14 : decode b_R_asks 14 = .ok (.aload_n 0, 1) := by decide +kernel
theorem d_R_asks_15 : decode b_R_asks 15 = .ok (.iload_n 1, 1) := by decide +kernel
theorem d_R_asks_16 : decode b_R_asks 16 = .ok (.iload_n 2, 1) := by decide +kernel
theorem d_R_asks_17 : decode b_R_asks 17 = .ok (.aload_n 0, 1) := by decide +kernel
theorem d_R_asks_18 : decode b_R_asks 18 = .ok (.getfield 7, 3) := by decide +kernel
theorem d_R_asks_21 : decode b_R_asks 21 = .ok (.iload_n 1, 1) := by decide +kernel
theorem d_R_asks_22 : decode b_R_asks 22 = .ok (.iaload, 1) := by decide +kernel
theorem d_R_asks_23 : decode b_R_asks 23 = .ok (.invokevirtual 119, 3) := by decide +kernel
theorem d_R_asks_26 : decode b_R_asks 26 = .ok (.aload_n 0, 1) := by decide +kernel
theorem d_R_asks_27 : decode b_R_asks 27 = .ok (.iload_n 1, 1) := by decide +kernel
theorem d_R_asks_28 : decode b_R_asks 28 = .ok (.iload_n 2, 1) := by decide +kernel
theorem d_R_asks_29 : decode b_R_asks 29 = .ok (.aload_n 0, 1) := by decide +kernel
theorem d_R_asks_30 : decode b_R_asks 30 = .ok (.getfield 25, 3) := by decide +kernel
theorem d_R_asks_33 : decode b_R_asks 33 = .ok (.iload_n 1, 1) := by decide +kernel
theorem d_R_asks_34 : decode b_R_asks 34 = .ok (.iaload, 1) := by decide +kernel
theorem d_R_asks_35 : decode b_R_asks 35 = .ok (.invokevirtual 119, 3) := by decide +kernel
theorem d_R_asks_38 : decode b_R_asks 38 = .ok (.if_icmp .le 7, 3) := by decide +kernel
theorem d_R_asks_41 : decode b_R_asks 41 = .ok (.iconst 1, 1) := by decide +kernel
theorem d_R_asks_42 : decode b_R_asks 42 = .ok (.goto 4, 3) := by decide +kernel
theorem d_R_asks_45 : decode b_R_asks 45 = .ok (.iconst 0, 1) := by decide +kernel
theorem d_R_asks_46 : decode b_R_asks 46 = .ok (.ireturn, 1) := by decide +kernel
theorem d_R_cut_0 : decode b_R_cut 0 = .ok (.aload_n 0, 1) := by decide +kernel
theorem d_R_cut_1 : decode b_R_cut 1 = .ok (.getfield 7, 3) := by decide +kernel
theorem d_R_cut_4 : decode b_R_cut 4 = .ok (.iload_n 1, 1) := by decide +kernel
theorem d_R_cut_5 : decode b_R_cut 5 = .ok (.aload_n 0, 1) := by decide +kernel
theorem d_R_cut_6 : decode b_R_cut 6 = .ok (.getfield 25, 3) := by decide +kernel
theorem d_R_cut_9 : decode b_R_cut 9 = .ok (.iload_n 1, 1) := by decide +kernel
theorem d_R_cut_10 : decode b_R_cut 10 = .ok (.iaload, 1) := by decide +kernel
theorem d_R_cut_11 : decode b_R_cut 11 = .ok (.iastore, 1) := by decide +kernel
theorem d_R_cut_12 : decode b_R_cut 12 = .ok (.aload_n 0, 1) := by decide +kernel
theorem d_R_cut_13 : decode b_R_cut 13 = .ok (.getfield 34, 3) := by decide +kernel
theorem d_R_cut_16 : decode b_R_cut 16 = .ok (.iload_n 1, 1) := by decide +kernel
theorem d_R_cut_17 : decode b_R_cut 17 = .ok (.iconst 0, 1) := by decide +kernel
theorem d_R_cut_18 : decode b_R_cut 18 = .ok (.bastore, 1) := by decide +kernel
theorem d_R_cut_19 : decode b_R_cut 19 = .ok (.aload_n 0, 1) := by decide +kernel
theorem d_R_cut_20 : decode b_R_cut 20 = .ok (.getfield 80, 3) := by decide +kernel
theorem d_R_cut_23 : decode b_R_cut 23 = .ok (.iload_n 1, 1) := by decide +kernel
theorem d_R_cut_24 : decode b_R_cut 24 = .ok (.dup2, 1) := by decide +kernel
theorem d_R_cut_25 : decode b_R_cut 25 = .ok (.iaload, 1) := by decide +kernel
theorem d_R_cut_26 : decode b_R_cut 26 = .ok (.iconst 1, 1) := by decide +kernel
theorem d_R_cut_27 : decode b_R_cut 27 = .ok (.iadd, 1) := by decide +kernel
theorem d_R_cut_28 : decode b_R_cut 28 = .ok (.iastore, 1) := by decide +kernel
theorem d_R_cut_29 : decode b_R_cut 29 = .ok (.iconst 0, 1) := by decide +kernel
theorem d_R_cut_30 : decode b_R_cut 30 = .ok (.istore_n 2, 1) := by decide +kernel
theorem d_R_cut_31 : decode b_R_cut 31 = .ok (.iload_n 2, 1) := by decide +kernel
theorem d_R_cut_32 : decode b_R_cut 32 = .ok (.aload_n 0, 1) := by decide +kernel
theorem d_R_cut_33 : decode b_R_cut 33 = .ok (.getfield 83, 3) := by decide +kernel
theorem d_R_cut_36 : decode b_R_cut 36 = .ok (.if_icmp .ge 60, 3) := by decide +kernel
theorem d_R_cut_39 : decode b_R_cut 39 = .ok (.aload_n 0, 1) := by decide +kernel
theorem d_R_cut_40 : decode b_R_cut 40 = .ok (.iload_n 1, 1) := by decide +kernel
theorem d_R_cut_41 : decode b_R_cut 41 = .ok (.iload_n 2, 1) := by decide +kernel
theorem d_R_cut_42 : decode b_R_cut 42 = .ok (.aload_n 0, 1) := by decide +kernel
theorem d_R_cut_43 : decode b_R_cut 43 = .ok (.getfield 7, 3) := by decide +kernel
theorem d_R_cut_46 : decode b_R_cut 46 = .ok (.iload_n 1, 1) := by decide +kernel
theorem d_R_cut_47 : decode b_R_cut 47 = .ok (.iaload, 1) := by decide +kernel
theorem d_R_cut_48 : decode b_R_cut 48 = .ok (.invokevirtual 95, 3) := by decide +kernel
theorem d_R_cut_51 : decode b_R_cut 51 = .ok (.istore_n 3, 1) := by decide +kernel
theorem d_R_cut_52 : decode b_R_cut 52 = .ok (.aload_n 0, 1) := by decide +kernel
theorem d_R_cut_53 : decode b_R_cut 53 = .ok (.getfield 31, 3) := by decide +kernel
theorem d_R_cut_56 : decode b_R_cut 56 = .ok (.iconst 5, 1) := by decide +kernel
theorem d_R_cut_57 : decode b_R_cut 57 = .ok (.iload_n 1, 1) := by decide +kernel
theorem d_R_cut_58 : decode b_R_cut 58 = .ok (.imul, 1) := by decide +kernel
theorem d_R_cut_59 : decode b_R_cut 59 = .ok (.iload_n 2, 1) := by decide +kernel
theorem d_R_cut_60 : decode b_R_cut 60 = .ok (.iadd, 1) := by decide +kernel
theorem d_R_cut_61 : decode b_R_cut 61 = .ok (.aload_n 0, 1) := by decide +kernel
theorem d_R_cut_62 : decode b_R_cut 62 = .ok (.getfield 31, 3) := by decide +kernel
theorem d_R_cut_65 : decode b_R_cut 65 = .ok (.iconst 5, 1) := by decide +kernel
theorem d_R_cut_66 : decode b_R_cut 66 = .ok (.iload_n 1, 1) := by decide +kernel
theorem d_R_cut_67 : decode b_R_cut 67 = .ok (.imul, 1) := by decide +kernel
theorem d_R_cut_68 : decode b_R_cut 68 = .ok (.iload_n 2, 1) := by decide +kernel
theorem d_R_cut_69 : decode b_R_cut 69 = .ok (.iadd, 1) := by decide +kernel
theorem d_R_cut_70 : decode b_R_cut 70 = .ok (.iaload, 1) := by decide +kernel
theorem d_R_cut_71 : decode b_R_cut 71 = .ok (.iload_n 3, 1) := by decide +kernel
theorem d_R_cut_72 : decode b_R_cut 72 = .ok (.if_icmp .ge 16, 3) := by decide +kernel
theorem d_R_cut_75 : decode b_R_cut 75 = .ok (.aload_n 0, 1) := by decide +kernel
theorem d_R_cut_76 : decode b_R_cut 76 = .ok (.getfield 31, 3) := by decide +kernel
theorem d_R_cut_79 : decode b_R_cut 79 = .ok (.iconst 5, 1) := by decide +kernel
theorem d_R_cut_80 : decode b_R_cut 80 = .ok (.iload_n 1, 1) := by decide +kernel
theorem d_R_cut_81 : decode b_R_cut 81 = .ok (.imul, 1) := by decide +kernel
theorem d_R_cut_82 : decode b_R_cut 82 = .ok (.iload_n 2, 1) := by decide +kernel
theorem d_R_cut_83 : decode b_R_cut 83 = .ok (.iadd, 1) := by decide +kernel
theorem d_R_cut_84 : decode b_R_cut 84 = .ok (.iaload, 1) := by decide +kernel
theorem d_R_cut_85 : decode b_R_cut 85 = .ok (.goto 4, 3) := by decide +kernel
theorem d_R_cut_88 : decode b_R_cut 88 = .ok (.iload_n 3, 1) := by decide +kernel
theorem d_R_cut_89 : decode b_R_cut 89 = .ok (.iastore, 1) := by decide +kernel
theorem d_R_cut_90 : decode b_R_cut 90 = .ok (.iinc 2 1, 3) := by decide +kernel
theorem d_R_cut_93 : decode b_R_cut 93 = .ok (.goto (-62), 3) := by decide +kernel
theorem d_R_cut_96 : decode b_R_cut 96 = .ok (.return_, 1) := by decide +kernel
theorem d_R_follow_0 : decode b_R_follow 0 = .ok (.iconst 0, 1) := by decide +kernel
theorem d_R_follow_1 : decode b_R_follow 1 = .ok (.istore_n 3, 1) := by decide +kernel
theorem d_R_follow_2 : decode b_R_follow 2 = .ok (.iload_n 3, 1) := by decide +kernel
theorem d_R_follow_3 : decode b_R_follow 3 = .ok (.aload_n 0, 1) := by decide +kernel
theorem d_R_follow_4 : decode b_R_follow 4 = .ok (.getfield 83, 3) := by decide +kernel
theorem d_R_follow_7 : decode b_R_follow 7 = .ok (.if_icmp .ge 39, 3) := by decide +kernel
theorem d_R_follow_10 : decode b_R_follow 10 = .ok (.aload_n 0, 1) := by decide +kernel
theorem d_R_follow_11 : decode b_R_follow 11 = .ok (.getfield 47, 3) := by decide +kernel
theorem d_R_follow_14 : decode b_R_follow 14 = .ok (.iload_n 1, 1) := by decide +kernel
theorem d_R_follow_15 : decode b_R_follow 15 = .ok (.iaload, 1) := by decide +kernel
theorem d_R_follow_16 : decode b_R_follow 16 = .ok (.iload_n 3, 1) := by decide +kernel
theorem d_R_follow_17 : decode b_R_follow 17 = .ok (.ishr, 1) := by decide +kernel
theorem d_R_follow_18 : decode b_R_follow 18 = .ok (.iconst 1, 1) := by decide +kernel
theorem d_R_follow_19 : decode b_R_follow 19 = .ok (.iand, 1) := by decide +kernel
theorem d_R_follow_20 : decode b_R_follow 20 = .ok (.iconst 1, 1) := by decide +kernel
theorem d_R_follow_21 : decode b_R_follow 21 = .ok (.if_icmp .ne 19, 3) := by decide +kernel
theorem d_R_follow_24 : decode b_R_follow 24 = .ok (.aload_n 0, 1) := by decide +kernel
theorem d_R_follow_25 : decode b_R_follow 25 = .ok (.iconst 2, 1) := by decide +kernel
theorem d_R_follow_26 : decode b_R_follow 26 = .ok (.iload_n 1, 1) := by decide +kernel
theorem d_R_follow_27 : decode b_R_follow 27 = .ok (.iload_n 3, 1) := by decide +kernel
theorem d_R_follow_28 : decode b_R_follow 28 = .ok (.iload_n 2, 1) := by decide +kernel
theorem d_R_follow_29 : decode b_R_follow 29 = .ok (.ifCond .eq 7, 3) := by decide +kernel
theorem d_R_follow_32 : decode b_R_follow 32 = .ok (.iconst 1, 1) := by decide +kernel
theorem d_R_follow_33 : decode b_R_follow 33 = .ok (.goto 4, 3) := by decide +kernel
theorem d_R_follow_36 : decode b_R_follow 36 = .ok (.iconst 0, 1) := by decide +kernel
theorem d_R_follow_37 : decode b_R_follow 37 = .ok (.invokevirtual 125, 3) := by decide +kernel
theorem d_R_follow_40 : decode b_R_follow 40 = .ok (.iinc 3 1, 3) := by decide +kernel
theorem d_R_follow_43 : decode b_R_follow 43 = .ok (.goto (-41), 3) := by decide +kernel
theorem d_R_follow_46 : decode b_R_follow 46 = .ok (.aload_n 0, 1) := by decide +kernel
theorem d_R_follow_47 : decode b_R_follow 47 = .ok (.getfield 38, 3) := by decide +kernel
theorem d_R_follow_50 : decode b_R_follow 50 = .ok (.iload_n 1, 1) := by decide +kernel
theorem d_R_follow_51 : decode b_R_follow 51 = .ok (.iconst 0, 1) := by decide +kernel
theorem d_R_follow_52 : decode b_R_follow 52 = .ok (.iastore, 1) := by decide +kernel
theorem d_R_follow_53 : decode b_R_follow 53 = .ok (.iload_n 2, 1) := by decide +kernel
theorem d_R_follow_54 : decode b_R_follow 54 = .ok (.ifCond .eq 20, 3) := by decide +kernel
theorem d_R_follow_57 : decode b_R_follow 57 = .ok (.aload_n 0, 1) := by decide +kernel
theorem d_R_follow_58 : decode b_R_follow 58 = .ok (.getfield 41, 3) := by decide +kernel
theorem d_R_follow_61 : decode b_R_follow 61 = .ok (.iload_n 1, 1) := by decide +kernel
theorem d_R_follow_62 : decode b_R_follow 62 = .ok (.baload, 1) := by decide +kernel
theorem d_R_follow_63 : decode b_R_follow 63 = .ok (.ifCond .eq 11, 3) := by decide +kernel
theorem d_R_follow_66 : decode b_R_follow 66 = .ok (.aload_n 0, 1) := by decide +kernel
theorem d_R_follow_67 : decode b_R_follow 67 = .ok (.iload_n 1, 1) := by decide +kernel
theorem d_R_follow_68 : decode b_R_follow 68 = .ok (.invokevirtual 137, 3) := by decide +kernel
theorem d_R_follow_71 : decode b_R_follow 71 = .ok (.goto 29, 3) := by decide +kernel
theorem d_R_follow_74 : decode b_R_follow 74 = .ok (.iload_n 2, 1) := by decide +kernel
theorem d_R_follow_75 : decode b_R_follow 75 = .ok (.ifCond .eq 25, 3) := by decide +kernel
theorem d_R_follow_78 : decode b_R_follow 78 = .ok (.aload_n 0, 1) := by decide +kernel
theorem d_R_follow_79 : decode b_R_follow 79 = .ok (.getfield 25, 3) := by decide +kernel
theorem d_R_follow_82 : decode b_R_follow 82 = .ok (.iload_n 1, 1) := by decide +kernel
theorem d_R_follow_83 : decode b_R_follow 83 = .ok (.aload_n 0, 1) := by decide +kernel
theorem d_R_follow_84 : decode b_R_follow 84 = .ok (.getfield 28, 3) := by decide +kernel
theorem d_R_follow_87 : decode b_R_follow 87 = .ok (.iload_n 1, 1) := by decide +kernel
theorem d_R_follow_88 : decode b_R_follow 88 = .ok (.iaload, 1) := by decide +kernel
theorem d_R_follow_89 : decode b_R_follow 89 = .ok (.iastore, 1) := by decide +kernel
theorem d_R_follow_90 : decode b_R_follow 90 = .ok (.aload_n 0, 1) := by decide +kernel
theorem d_R_follow_91 : decode b_R_follow 91 = .ok (.getfield 77, 3) := by decide +kernel
theorem d_R_follow_94 : decode b_R_follow 94 = .ok (.iload_n 1, 1) := by decide +kernel
theorem d_R_follow_95 : decode b_R_follow 95 = .ok (.dup2, 1) := by decide +kernel
theorem d_R_follow_96 : decode b_R_follow 96 = .ok (.iaload, 1) := by decide +kernel
theorem d_R_follow_97 : decode b_R_follow 97 = .ok (.iconst 1, 1) := by decide +kernel
theorem d_R_follow_98 : decode b_R_follow 98 = .ok (.iadd, 1) := by decide +kernel
theorem d_R_follow_99 : decode b_R_follow 99 = .ok (.iastore, 1) := by decide +kernel
theorem d_R_follow_100 : decode b_R_follow 100 = .ok (.return_, 1) := by decide +kernel
theorem d_R_complete_0 : decode b_R_complete 0 = .ok (.aload_n 0, 1) := by decide +kernel
theorem d_R_complete_1 : decode b_R_complete 1 = .ok (.getfield 50, 3) := by decide +kernel
theorem d_R_complete_4 : decode b_R_complete 4 = .ok (.iload_n 1, 1) := by decide +kernel
theorem d_R_complete_5 : decode b_R_complete 5 = .ok (.iaload, 1) := by decide +kernel
theorem d_R_complete_6 : decode b_R_complete 6 = .ok (.aload_n 0, 1) := by decide +kernel
theorem d_R_complete_7 : decode b_R_complete 7 = .ok (.getfield 47, 3) := by decide +kernel
theorem d_R_complete_10 : decode b_R_complete 10 = .ok (.iload_n 1, 1) := by decide +kernel
theorem d_R_complete_11 : decode b_R_complete 11 = .ok (.iaload, 1) := by decide +kernel
theorem d_R_complete_12 : decode b_R_complete 12 = .ok (.if_icmp .eq 4, 3) := by decide +kernel
theorem d_R_complete_15 : decode b_R_complete 15 = .ok (.return_, 1) := by decide +kernel
theorem d_R_complete_16 : decode b_R_complete 16 = .ok (.aload_n 0, 1) := by decide +kernel
theorem d_R_complete_17 : decode b_R_complete 17 = .ok (.getfield 53, 3) := by decide +kernel
theorem d_R_complete_20 : decode b_R_complete 20 = .ok (.iload_n 1, 1) := by decide +kernel
theorem d_R_complete_21 : decode b_R_complete 21 = .ok (.iaload, 1) := by decide +kernel
theorem d_R_complete_22 : decode b_R_complete 22 = .ok (.ifCond .ne 7, 3) := by decide +kernel
theorem d_R_complete_25 : decode b_R_complete 25 = .ok (.iconst 1, 1) := by decide +kernel
theorem d_R_complete_26 : decode b_R_complete 26 = .ok (.goto 4, 3) := by decide +kernel
theorem d_R_complete_29 : decode b_R_complete 29 = .ok (.iconst 0, 1) := by decide +kernel
theorem d_R_complete_30 : decode b_R_complete 30 = .ok (.istore_n 2, 1) := by decide +kernel
theorem d_R_complete_31 : decode b_R_complete 31 = .ok (.aload_n 0, 1) := by decide +kernel
theorem d_R_complete_32 : decode b_R_complete 32 = .ok (.getfield 44, 3) := by decide +kernel
theorem d_R_complete_35 : decode b_R_complete 35 = .ok (.iload_n 1, 1) := by decide +kernel
theorem d_R_complete_36 : decode b_R_complete 36 = .ok (.iaload, 1) := by decide +kernel
theorem d_R_complete_37 : decode b_R_complete 37 = .ok (.ifCond .lt 27, 3) := by decide +kernel
theorem d_R_complete_40 : decode b_R_complete 40 = .ok (.aload_n 0, 1) := by decide +kernel
theorem d_R_complete_41 : decode b_R_complete 41 = .ok (.iconst 1, 1) := by decide +kernel
theorem d_R_complete_42 : decode b_R_complete 42 = .ok (.iload_n 1, 1) := by decide +kernel
theorem d_R_complete_43 : decode b_R_complete 43 = .ok (.aload_n 0, 1) := by decide +kernel
theorem d_R_complete_44 : decode b_R_complete 44 = .ok (.getfield 44, 3) := by decide +kernel
theorem d_R_complete_47 : decode b_R_complete 47 = .ok (.iload_n 1, 1) := by decide +kernel
theorem d_R_complete_48 : decode b_R_complete 48 = .ok (.iaload, 1) := by decide +kernel
theorem d_R_complete_49 : decode b_R_complete 49 = .ok (.iload_n 2, 1) := by decide +kernel
theorem d_R_complete_50 : decode b_R_complete 50 = .ok (.ifCond .eq 7, 3) := by decide +kernel
theorem d_R_complete_53 : decode b_R_complete 53 = .ok (.iconst 1, 1) := by decide +kernel
theorem d_R_complete_54 : decode b_R_complete 54 = .ok (.goto 4, 3) := by decide +kernel
theorem d_R_complete_57 : decode b_R_complete 57 = .ok (.iconst 0, 1) := by decide +kernel
theorem d_R_complete_58 : decode b_R_complete 58 = .ok (.invokevirtual 125, 3) := by decide +kernel
theorem d_R_complete_61 : decode b_R_complete 61 = .ok (.goto 29, 3) := by decide +kernel
theorem d_R_complete_64 : decode b_R_complete 64 = .ok (.aload_n 0, 1) := by decide +kernel
theorem d_R_complete_65 : decode b_R_complete 65 = .ok (.getfield 56, 3) := by decide +kernel
theorem d_R_complete_68 : decode b_R_complete 68 = .ok (.aload_n 0, 1) := by decide +kernel
theorem d_R_complete_69 : decode b_R_complete 69 = .ok (.getfield 38, 3) := by decide +kernel
theorem d_R_complete_72 : decode b_R_complete 72 = .ok (.iload_n 1, 1) := by decide +kernel
theorem d_R_complete_73 : decode b_R_complete 73 = .ok (.iaload, 1) := by decide +kernel
theorem d_R_complete_74 : decode b_R_complete 74 = .ok (.iload_n 2, 1) := by decide +kernel
theorem d_R_complete_75 : decode b_R_complete 75 = .ok (.ifCond .eq 7, 3) := by decide +kernel
theorem d_R_complete_78 : decode b_R_complete 78 = .ok (.iconst 1, 1) := by decide +kernel
theorem d_R_complete_79 : decode b_R_complete 79 = .ok (.goto 4, 3) := by decide +kernel
theorem d_R_complete_82 : decode b_R_complete 82 = .ok (.iconst 2, 1) := by decide +kernel
theorem d_R_complete_83 : decode b_R_complete 83 = .ok (.iastore, 1) := by decide +kernel
theorem d_R_complete_84 : decode b_R_complete 84 = .ok (.aload_n 0, 1) := by decide +kernel
theorem d_R_complete_85 : decode b_R_complete 85 = .ok (.iload_n 1, 1) := by decide +kernel
theorem d_R_complete_86 : decode b_R_complete 86 = .ok (.iload_n 2, 1) := by decide +kernel
theorem d_R_complete_87 : decode b_R_complete 87 = .ok (.invokevirtual 133, 3) := by decide +kernel
theorem d_R_complete_90 : decode b_R_complete 90 = .ok (.return_, 1) := by decide +kernel
theorem d_R_join_0 : decode b_R_join 0 = .ok (.aload_n 0, 1) := by decide +kernel
theorem d_R_join_1 : decode b_R_join 1 = .ok (.getfield 38, 3) := by decide +kernel
theorem d_R_join_4 : decode b_R_join 4 = .ok (.iload_n 1, 1) := by decide +kernel
theorem d_R_join_5 : decode b_R_join 5 = .ok (.iload_n 2, 1) := by decide +kernel
theorem d_R_join_6 : decode b_R_join 6 = .ok (.iastore, 1) := by decide +kernel
theorem d_R_join_7 : decode b_R_join 7 = .ok (.aload_n 0, 1) := by decide +kernel
theorem d_R_join_8 : decode b_R_join 8 = .ok (.getfield 41, 3) := by decide +kernel
theorem d_R_join_11 : decode b_R_join 11 = .ok (.iload_n 1, 1) := by decide +kernel
theorem d_R_join_12 : decode b_R_join 12 = .ok (.iload_n 3, 1) := by decide +kernel
theorem d_R_join_13 : decode b_R_join 13 = .ok (.bastore, 1) := by decide +kernel
theorem d_R_join_14 : decode b_R_join 14 = .ok (.aload_n 0, 1) := by decide +kernel
theorem d_R_join_15 : decode b_R_join 15 = .ok (.getfield 44, 3) := by decide +kernel
theorem d_R_join_18 : decode b_R_join 18 = .ok (.iload_n 1, 1) := by decide +kernel
theorem d_R_join_19 : decode b_R_join 19 = .ok (.iload 4, 2) := by decide +kernel
theorem d_R_join_21 : decode b_R_join 21 = .ok (.iastore, 1) := by decide +kernel
theorem d_R_join_22 : decode b_R_join 22 = .ok (.aload_n 0, 1) := by decide +kernel
theorem d_R_join_23 : decode b_R_join 23 = .ok (.getfield 47, 3) := by decide +kernel
theorem d_R_join_26 : decode b_R_join 26 = .ok (.iload_n 1, 1) := by decide +kernel
theorem d_R_join_27 : decode b_R_join 27 = .ok (.iconst 0, 1) := by decide +kernel
theorem d_R_join_28 : decode b_R_join 28 = .ok (.iastore, 1) := by decide +kernel
theorem d_R_join_29 : decode b_R_join 29 = .ok (.aload_n 0, 1) := by decide +kernel
theorem d_R_join_30 : decode b_R_join 30 = .ok (.getfield 50, 3) := by decide +kernel
theorem d_R_join_33 : decode b_R_join 33 = .ok (.iload_n 1, 1) := by decide +kernel
theorem d_R_join_34 : decode b_R_join 34 = .ok (.iconst 0, 1) := by decide +kernel
theorem d_R_join_35 : decode b_R_join 35 = .ok (.iastore, 1) := by decide +kernel
theorem d_R_join_36 : decode b_R_join 36 = .ok (.aload_n 0, 1) := by decide +kernel
theorem d_R_join_37 : decode b_R_join 37 = .ok (.getfield 53, 3) := by decide +kernel
theorem d_R_join_40 : decode b_R_join 40 = .ok (.iload_n 1, 1) := by decide +kernel
theorem d_R_join_41 : decode b_R_join 41 = .ok (.iconst 0, 1) := by decide +kernel
theorem d_R_join_42 : decode b_R_join 42 = .ok (.iastore, 1) := by decide +kernel
theorem d_R_join_43 : decode b_R_join 43 = .ok (.aload_n 0, 1) := by decide +kernel
theorem d_R_join_44 : decode b_R_join 44 = .ok (.getfield 28, 3) := by decide +kernel
theorem d_R_join_47 : decode b_R_join 47 = .ok (.iload_n 1, 1) := by decide +kernel
theorem d_R_join_48 : decode b_R_join 48 = .ok (.aload_n 0, 1) := by decide +kernel
theorem d_R_join_49 : decode b_R_join 49 = .ok (.getfield 7, 3) := by decide +kernel
theorem d_R_join_52 : decode b_R_join 52 = .ok (.iload_n 1, 1) := by decide +kernel
theorem d_R_join_53 : decode b_R_join 53 = .ok (.iaload, 1) := by decide +kernel
theorem d_R_join_54 : decode b_R_join 54 = .ok (.iastore, 1) := by decide +kernel
theorem d_R_join_55 : decode b_R_join 55 = .ok (.iconst 0, 1) := by decide +kernel
theorem d_R_join_56 : decode b_R_join 56 = .ok (.istore 5, 2) := by decide +kernel
theorem d_R_join_58 : decode b_R_join 58 = .ok (.iload 5, 2) := by decide +kernel
theorem d_R_join_60 : decode b_R_join 60 = .ok (.aload_n 0, 1) := by decide +kernel
theorem d_R_join_61 : decode b_R_join 61 = .ok (.getfield 83, 3) := by decide +kernel
theorem d_R_join_64 : decode b_R_join 64 = .ok (.if_icmp .ge 77, 3) := by decide +kernel
theorem d_R_join_67 : decode b_R_join 67 = .ok (.aload_n 0, 1) := by decide +kernel
theorem d_R_join_68 : decode b_R_join 68 = .ok (.iload_n 1, 1) := by decide +kernel
theorem d_R_join_69 : decode b_R_join 69 = .ok (.iload 5, 2) := by decide +kernel
theorem d_R_join_71 : decode b_R_join 71 = .ok (.invokevirtual 122, 3) := by decide +kernel
theorem d_R_join_74 : decode b_R_join 74 = .ok (.ifCond .eq 61, 3) := by decide +kernel
theorem d_R_join_77 : decode b_R_join 77 = .ok (.aload_n 0, 1) := by decide +kernel
theorem d_R_join_78 : decode b_R_join 78 = .ok (.getfield 47, 3) := by decide +kernel
theorem d_R_join_81 : decode b_R_join 81 = .ok (.iload_n 1, 1) := by decide +kernel
theorem d_R_join_82 : decode b_R_join 82 = .ok (.dup2, 1) := by decide +kernel
theorem d_R_join_83 : decode b_R_join 83 = .ok (.iaload, 1) := by decide +kernel
theorem d_R_join_84 : decode b_R_join 84 = .ok (.iconst 1, 1) := by decide +kernel
theorem d_R_join_85 : decode b_R_join 85 = .ok (.iload 5, 2) := by decide +kernel
theorem d_R_join_87 : decode b_R_join 87 = .ok (.ishl, 1) := by decide +kernel
theorem d_R_join_88 : decode b_R_join 88 = .ok (.ior, 1) := by decide +kernel
theorem d_R_join_89 : decode b_R_join 89 = .ok (.iastore, 1) := by decide +kernel
theorem d_R_join_90 : decode b_R_join 90 = .ok (.iload_n 3, 1) := by decide +kernel
theorem d_R_join_91 : decode b_R_join 91 = .ok (.ifCond .eq 19, 3) := by decide +kernel
theorem d_R_join_94 : decode b_R_join 94 = .ok (.aload_n 0, 1) := by decide +kernel
theorem d_R_join_95 : decode b_R_join 95 = .ok (.iload_n 1, 1) := by decide +kernel
theorem d_R_join_96 : decode b_R_join 96 = .ok (.iload 5, 2) := by decide +kernel
theorem d_R_join_98 : decode b_R_join 98 = .ok (.aload_n 0, 1) := by decide +kernel
theorem d_R_join_99 : decode b_R_join 99 = .ok (.getfield 25, 3) := by decide +kernel
theorem d_R_join_102 : decode b_R_join 102 = .ok (.iload_n 1, 1) := by decide +kernel
theorem d_R_join_103 : decode b_R_join 103 = .ok (.iaload, 1) := by decide +kernel
theorem d_R_join_104 : decode b_R_join 104 = .ok (.invokevirtual 95, 3) := by decide +kernel
theorem d_R_join_107 : decode b_R_join 107 = .ok (.goto 16, 3) := by decide +kernel
theorem d_R_join_110 : decode b_R_join 110 = .ok (.aload_n 0, 1) := by decide +kernel
theorem d_R_join_111 : decode b_R_join 111 = .ok (.iload_n 1, 1) := by decide +kernel
theorem d_R_join_112 : decode b_R_join 112 = .ok (.iload 5, 2) := by decide +kernel
theorem d_R_join_114 : decode b_R_join 114 = .ok (.aload_n 0, 1) := by decide +kernel
theorem d_R_join_115 : decode b_R_join 115 = .ok (.getfield 7, 3) := by decide +kernel
theorem d_R_join_118 : decode b_R_join 118 = .ok (.iload_n 1, 1) := by decide +kernel
theorem d_R_join_119 : decode b_R_join 119 = .ok (.iaload, 1) := by decide +kernel
theorem d_R_join_120 : decode b_R_join 120 = .ok (.invokevirtual 119, 3) := by decide +kernel
theorem d_R_join_123 : decode b_R_join 123 = .ok (.istore 6, 2) := by decide +kernel
theorem d_R_join_125 : decode b_R_join 125 = .ok (.aload_n 0, 1) := by decide +kernel
theorem d_R_join_126 : decode b_R_join 126 = .ok (.iconst 0, 1) := by decide +kernel
theorem d_R_join_127 : decode b_R_join 127 = .ok (.iload_n 1, 1) := by decide +kernel
theorem d_R_join_128 : decode b_R_join 128 = .ok (.iload 5, 2) := by decide +kernel
theorem d_R_join_130 : decode b_R_join 130 = .ok (.iload 6, 2) := by decide +kernel
theorem d_R_join_132 : decode b_R_join 132 = .ok (.invokevirtual 125, 3) := by decide +kernel
theorem d_R_join_135 : decode b_R_join 135 = .ok (.iinc 5 1, 3) := by decide +kernel
theorem d_R_join_138 : decode b_R_join 138 = .ok (.goto (-80), 3) := by decide +kernel
theorem d_R_join_141 : decode b_R_join 141 = .ok (.aload_n 0, 1) := by decide +kernel
theorem d_R_join_142 : decode b_R_join 142 = .ok (.iload_n 1, 1) := by decide +kernel
theorem d_R_join_143 : decode b_R_join 143 = .ok (.invokevirtual 129, 3) := by decide +kernel
theorem d_R_join_146 : decode b_R_join 146 = .ok (.return_, 1) := by decide +kernel
theorem d_R_concerned_0 : decode b_R_concerned 0 = .ok (.aload_n 0, 1) := by decide +kernel
theorem d_R_concerned_1 : decode b_R_concerned 1 = .ok (.getfield 62, 3) := by decide +kernel
theorem d_R_concerned_4 : decode b_R_concerned 4 = .ok (.iload_n 2, 1) := by decide +kernel
theorem d_R_concerned_5 : decode b_R_concerned 5 = .ok (.iaload, 1) := by decide +kernel
theorem d_R_concerned_6 : decode b_R_concerned 6 = .ok (.istore_n 3, 1) := by decide +kernel
theorem d_R_concerned_7 : decode b_R_concerned 7 = .ok (.aload_n 0, 1) := by decide +kernel
theorem d_R_concerned_8 : decode b_R_concerned 8 = .ok (.getfield 71, 3) := by decide +kernel
theorem d_R_concerned_11 : decode b_R_concerned 11 = .ok (.iload_n 2, 1) := by decide +kernel
theorem d_R_concerned_12 : decode b_R_concerned 12 = .ok (.baload, 1) := by decide +kernel
theorem d_R_concerned_13 : decode b_R_concerned 13 = .ok (.ifCond .eq 32, 3) := by decide +kernel
theorem d_R_concerned_16 : decode b_R_concerned 16 = .ok (.aload_n 0, 1) := by decide +kernel
theorem d_R_concerned_17 : decode b_R_concerned 17 = .ok (.iload_n 1, 1) := by decide +kernel
theorem d_R_concerned_18 : decode b_R_concerned 18 = .ok (.iload_n 3, 1) := by decide +kernel
theorem d_R_concerned_19 : decode b_R_concerned 19 = .ok (.aload_n 0, 1) := by decide +kernel
theorem d_R_concerned_20 : decode b_R_concerned 20 = .ok (.getfield 7, 3) := by decide +kernel
theorem d_R_concerned_23 : decode b_R_concerned 23 = .ok (.iload_n 1, 1) := by decide +kernel
theorem d_R_concerned_24 : decode b_R_concerned 24 = .ok (.iaload, 1) := by decide +kernel
theorem d_R_concerned_25 : decode b_R_concerned 25 = .ok (.invokevirtual 119, 3) := by decide +kernel
theorem d_R_concerned_28 : decode b_R_concerned 28 = .ok (.aload_n 0, 1) := by decide +kernel
theorem d_R_concerned_29 : decode b_R_concerned 29 = .ok (.getfield 74, 3) := by decide +kernel
theorem d_R_concerned_32 : decode b_R_concerned 32 = .ok (.iload_n 2, 1) := by decide +kernel
theorem d_R_concerned_33 : decode b_R_concerned 33 = .ok (.iaload, 1) := by decide +kernel
theorem d_R_concerned_34 : decode b_R_concerned 34 = .ok (.if_icmp .le 7, 3) := by decide +kernel
theorem d_R_concerned_37 : decode b_R_concerned 37 = .ok (.iconst 1, 1) := by decide +kernel
theorem d_R_concerned_38 : decode b_R_concerned 38 = .ok (.goto 33, 3) := by decide +kernel
theorem d_R_concerned_41 : decode b_R_concerned 41 = .ok (.iconst 0, 1) := by decide +kernel
theorem d_R_concerned_42 : decode b_R_concerned 42 = .ok (.goto 29, 3) := by decide +kernel
theorem d_R_concerned_45 : decode b_R_concerned 45 = .ok (.aload_n 0, 1) := by decide +kernel
theorem d_R_concerned_46 : decode b_R_concerned 46 = .ok (.getfield 74, 3) := by decide +kernel
theorem d_R_concerned_49 : decode b_R_concerned 49 = .ok (.iload_n 2, 1) := by decide +kernel
theorem d_R_concerned_50 : decode b_R_concerned 50 = .ok (.iaload, 1) := by decide +kernel
theorem d_R_concerned_51 : decode b_R_concerned 51 = .ok (.aload_n 0, 1) := by decide +kernel
theorem d_R_concerned_52 : decode b_R_concerned 52 = .ok (.iload_n 1, 1) := by decide +kernel
theorem d_R_concerned_53 : decode b_R_concerned 53 = .ok (.iload_n 3, 1) := by decide +kernel
theorem d_R_concerned_54 : decode b_R_concerned 54 = .ok (.aload_n 0, 1) := by decide +kernel
theorem d_R_concerned_55 : decode b_R_concerned 55 = .ok (.getfield 25, 3) := by decide +kernel
theorem d_R_concerned_58 : decode b_R_concerned 58 = .ok (.iload_n 1, 1) := by decide +kernel
theorem d_R_concerned_59 : decode b_R_concerned 59 = .ok (.iaload, 1) := by decide +kernel
theorem d_R_concerned_60 : decode b_R_concerned 60 = .ok (.invokevirtual 95, 3) := by decide +kernel
theorem d_R_concerned_63 : decode b_R_concerned 63 = .ok (.if_icmp .le 7, 3) := by decide +kernel
theorem d_R_concerned_66 : decode b_R_concerned 66 = .ok (.iconst 1, 1) := by decide +kernel
theorem d_R_concerned_67 : decode b_R_concerned 67 = .ok (.goto 4, 3) := by decide +kernel
theorem d_R_concerned_70 : decode b_R_concerned 70 = .ok (.iconst 0, 1) := by decide +kernel
theorem d_R_concerned_71 : decode b_R_concerned 71 = .ok (.ireturn, 1) := by decide +kernel
theorem d_R_request_0 : decode b_R_request 0 = .ok (.aload_n 0, 1) := by decide +kernel
theorem d_R_request_1 : decode b_R_request 1 = .ok (.getfield 65, 3) := by decide +kernel
theorem d_R_request_4 : decode b_R_request 4 = .ok (.iload_n 1, 1) := by decide +kernel
theorem d_R_request_5 : decode b_R_request 5 = .ok (.iaload, 1) := by decide +kernel
theorem d_R_request_6 : decode b_R_request 6 = .ok (.istore_n 2, 1) := by decide +kernel
theorem d_R_request_7 : decode b_R_request 7 = .ok (.aload_n 0, 1) := by decide +kernel
theorem d_R_request_8 : decode b_R_request 8 = .ok (.getfield 38, 3) := by decide +kernel
theorem d_R_request_11 : decode b_R_request 11 = .ok (.iload_n 2, 1) := by decide +kernel
theorem d_R_request_12 : decode b_R_request 12 = .ok (.iaload, 1) := by decide +kernel
theorem d_R_request_13 : decode b_R_request 13 = .ok (.ifCond .ne 25, 3) := by decide +kernel
theorem d_R_request_16 : decode b_R_request 16 = .ok (.aload_n 0, 1) := by decide +kernel
theorem d_R_request_17 : decode b_R_request 17 = .ok (.getfield 34, 3) := by decide +kernel
theorem d_R_request_20 : decode b_R_request 20 = .ok (.iload_n 2, 1) := by decide +kernel
theorem d_R_request_21 : decode b_R_request 21 = .ok (.baload, 1) := by decide +kernel
theorem d_R_request_22 : decode b_R_request 22 = .ok (.ifCond .ne 16, 3) := by decide +kernel
theorem d_R_request_25 : decode b_R_request 25 = .ok (.aload_n 0, 1) := by decide +kernel
theorem d_R_request_26 : decode b_R_request 26 = .ok (.iload_n 2, 1) := by decide +kernel
theorem d_R_request_27 : decode b_R_request 27 = .ok (.iload_n 1, 1) := by decide +kernel
theorem d_R_request_28 : decode b_R_request 28 = .ok (.invokevirtual 140, 3) := by decide +kernel
theorem d_R_request_31 : decode b_R_request 31 = .ok (.ifCond .eq 7, 3) := by decide +kernel
theorem d_R_request_34 : decode b_R_request 34 = .ok (.iconst 1, 1) := by decide +kernel
theorem d_R_request_35 : decode b_R_request 35 = .ok (.goto 4, 3) := by decide +kernel
theorem d_R_request_38 : decode b_R_request 38 = .ok (.iconst 0, 1) := by decide +kernel
theorem d_R_request_39 : decode b_R_request 39 = .ok (.istore_n 3, 1) := by decide +kernel
theorem d_R_request_40 : decode b_R_request 40 = .ok (.iload_n 3, 1) := by decide +kernel
theorem d_R_request_41 : decode b_R_request 41 = .ok (.ifCond .eq 27, 3) := by decide +kernel
theorem d_R_request_44 : decode b_R_request 44 = .ok (.aload_n 0, 1) := by decide +kernel
theorem d_R_request_45 : decode b_R_request 45 = .ok (.iload_n 2, 1) := by decide +kernel
theorem d_R_request_46 : decode b_R_request 46 = .ok (.aload_n 0, 1) := by decide +kernel
theorem d_R_request_47 : decode b_R_request 47 = .ok (.getfield 68, 3) := by decide +kernel
theorem d_R_request_50 : decode b_R_request 50 = .ok (.iload_n 1, 1) := by decide +kernel
theorem d_R_request_51 : decode b_R_request 51 = .ok (.iaload, 1) := by decide +kernel
theorem d_R_request_52 : decode b_R_request 52 = .ok (.aload_n 0, 1) := by decide +kernel
theorem d_R_request_53 : decode b_R_request 53 = .ok (.getfield 71, 3) := by decide +kernel
theorem d_R_request_56 : decode b_R_request 56 = .ok (.iload_n 1, 1) := by decide +kernel
theorem d_R_request_57 : decode b_R_request 57 = .ok (.baload, 1) := by decide +kernel
theorem d_R_request_58 : decode b_R_request 58 = .ok (.aload_n 0, 1) := by decide +kernel
theorem d_R_request_59 : decode b_R_request 59 = .ok (.getfield 62, 3) := by decide +kernel
theorem d_R_request_62 : decode b_R_request 62 = .ok (.iload_n 1, 1) := by decide +kernel
theorem d_R_request_63 : decode b_R_request 63 = .ok (.iaload, 1) := by decide +kernel
theorem d_R_request_64 : decode b_R_request 64 = .ok (.invokevirtual 143, 3) := by decide +kernel
theorem d_R_request_67 : decode b_R_request 67 = .ok (.return_, 1) := by decide +kernel
theorem d_R_request_68 : decode b_R_request 68 = .ok (.aload_n 0, 1) := by decide +kernel
theorem d_R_request_69 : decode b_R_request 69 = .ok (.getfield 38, 3) := by decide +kernel
theorem d_R_request_72 : decode b_R_request 72 = .ok (.iload_n 2, 1) := by decide +kernel
theorem d_R_request_73 : decode b_R_request 73 = .ok (.iaload, 1) := by decide +kernel
theorem d_R_request_74 : decode b_R_request 74 = .ok (.aload_n 0, 1) := by decide +kernel
theorem d_R_request_75 : decode b_R_request 75 = .ok (.getfield 68, 3) := by decide +kernel
theorem d_R_request_78 : decode b_R_request 78 = .ok (.iload_n 1, 1) := by decide +kernel
theorem d_R_request_79 : decode b_R_request 79 = .ok (.iaload, 1) := by decide +kernel
theorem d_R_request_80 : decode b_R_request 80 = .ok (.if_icmp .eq 30, 3) := by decide +kernel
theorem d_R_request_83 : decode b_R_request 83 = .ok (.aload_n 0, 1) := by decide +kernel
theorem d_R_request_84 : decode b_R_request 84 = .ok (.getfield 38, 3) := by decide +kernel
theorem d_R_request_87 : decode b_R_request 87 = .ok (.iload_n 2, 1) := by decide +kernel
theorem d_R_request_88 : decode b_R_request 88 = .ok (.iaload, 1) := by decide +kernel
theorem d_R_request_89 : decode b_R_request 89 = .ok (.ifCond .ne 25, 3) := by decide +kernel
theorem d_R_request_92 : decode b_R_request 92 = .ok (.aload_n 0, 1) := by decide +kernel
theorem d_R_request_93 : decode b_R_request 93 = .ok (.getfield 34, 3) := by decide +kernel
theorem d_R_request_96 : decode b_R_request 96 = .ok (.iload_n 2, 1) := by decide +kernel
theorem d_R_request_97 : decode b_R_request 97 = .ok (.baload, 1) := by decide +kernel
theorem d_R_request_98 : decode b_R_request 98 = .ok (.ifCond .eq 12, 3) := by decide +kernel
theorem d_R_request_101 : decode b_R_request 101 = .ok (.aload_n 0, 1) := by decide +kernel
theorem d_R_request_102 : decode b_R_request 102 = .ok (.getfield 71, 3) := by decide +kernel
theorem d_R_request_105 : decode b_R_request 105 = .ok (.iload_n 1, 1) := by decide +kernel
theorem d_R_request_106 : decode b_R_request 106 = .ok (.baload, 1) := by decide +kernel
theorem d_R_request_107 : decode b_R_request 107 = .ok (.ifCond .eq 7, 3) := by decide +kernel
theorem d_R_request_110 : decode b_R_request 110 = .ok (.iconst 1, 1) := by decide +kernel
theorem d_R_request_111 : decode b_R_request 111 = .ok (.goto 4, 3) := by decide +kernel
theorem d_R_request_114 : decode b_R_request 114 = .ok (.iconst 0, 1) := by decide +kernel
theorem d_R_request_115 : decode b_R_request 115 = .ok (.istore 4, 2) := by decide +kernel
theorem d_R_request_117 : decode b_R_request 117 = .ok (.aload_n 0, 1) := by decide +kernel
theorem d_R_request_118 : decode b_R_request 118 = .ok (.iconst 1, 1) := by decide +kernel
theorem d_R_request_119 : decode b_R_request 119 = .ok (.iload_n 2, 1) := by decide +kernel
theorem d_R_request_120 : decode b_R_request 120 = .ok (.aload_n 0, 1) := by decide +kernel
theorem d_R_request_121 : decode b_R_request 121 = .ok (.getfield 62, 3) := by decide +kernel
theorem d_R_request_124 : decode b_R_request 124 = .ok (.iload_n 1, 1) := by decide +kernel
theorem d_R_request_125 : decode b_R_request 125 = .ok (.iaload, 1) := by decide +kernel
theorem d_R_request_126 : decode b_R_request 126 = .ok (.iload 4, 2) := by decide +kernel
theorem d_R_request_128 : decode b_R_request 128 = .ok (.ifCond .eq 7, 3) := by decide +kernel
theorem d_R_request_131 : decode b_R_request 131 = .ok (.iconst 1, 1) := by decide +kernel
theorem d_R_request_132 : decode b_R_request 132 = .ok (.goto 4, 3) := by decide +kernel
theorem d_R_request_135 : decode b_R_request 135 = .ok (.iconst 0, 1) := by decide +kernel
theorem d_R_request_136 : decode b_R_request 136 = .ok (.invokevirtual 125, 3) := by decide +kernel
theorem d_R_request_139 : decode b_R_request 139 = .ok (.aload_n 0, 1) := by decide +kernel
theorem d_R_request_140 : decode b_R_request 140 = .ok (.getfield 68, 3) := by decide +kernel
theorem d_R_request_143 : decode b_R_request 143 = .ok (.aload_n 0, 1) := by decide +kernel
theorem d_R_request_144 : decode b_R_request 144 = .ok (.getfield 116, 3) := by decide +kernel
theorem d_R_request_147 : decode b_R_request 147 = .ok (.iconst 1, 1) := by decide +kernel
theorem d_R_request_148 : decode b_R_request 148 = .ok (.isub, 1) := by decide +kernel
theorem d_R_request_149 : decode b_R_request 149 = .ok (.aload_n 0, 1) := by decide +kernel
theorem d_R_request_150 : decode b_R_request 150 = .ok (.getfield 68, 3) := by decide +kernel
theorem d_R_request_153 : decode b_R_request 153 = .ok (.iload_n 1, 1) := by decide +kernel
theorem d_R_request_154 : decode b_R_request 154 = .ok (.iaload, 1) := by decide +kernel
theorem d_R_request_155 : decode b_R_request 155 = .ok (.iastore, 1) := by decide +kernel
theorem d_R_request_156 : decode b_R_request 156 = .ok (.aload_n 0, 1) := by decide +kernel
theorem d_R_request_157 : decode b_R_request 157 = .ok (.getfield 71, 3) := by decide +kernel
theorem d_R_request_160 : decode b_R_request 160 = .ok (.aload_n 0, 1) := by decide +kernel
theorem d_R_request_161 : decode b_R_request 161 = .ok (.getfield 116, 3) := by decide +kernel
theorem d_R_request_164 : decode b_R_request 164 = .ok (.iconst 1, 1) := by decide +kernel
theorem d_R_request_165 : decode b_R_request 165 = .ok (.isub, 1) := by decide +kernel
theorem d_R_request_166 : decode b_R_request 166 = .ok (.aload_n 0, 1) := by decide +kernel
theorem d_R_request_167 : decode b_R_request 167 = .ok (.getfield 71, 3) := by decide +kernel
theorem d_R_request_170 : decode b_R_request 170 = .ok (.iload_n 1, 1) := by decide +kernel
theorem d_R_request_171 : decode b_R_request 171 = .ok (.baload, 1) := by decide +kernel
theorem d_R_request_172 : decode b_R_request 172 = .ok (.bastore, 1) := by decide +kernel
theorem d_R_request_173 : decode b_R_request 173 = .ok (.return_, 1) := by decide +kernel
theorem d_R_deliver_0 : decode b_R_deliver 0 = .ok (.aload_n 0, 1) := by decide +kernel
theorem d_R_deliver_1 : decode b_R_deliver 1 = .ok (.getfield 65, 3) := by decide +kernel
theorem d_R_deliver_4 : decode b_R_deliver 4 = .ok (.iload_n 1, 1) := by decide +kernel
theorem d_R_deliver_5 : decode b_R_deliver 5 = .ok (.iaload, 1) := by decide +kernel
theorem d_R_deliver_6 : decode b_R_deliver 6 = .ok (.istore_n 2, 1) := by decide +kernel
theorem d_R_deliver_7 : decode b_R_deliver 7 = .ok (.aload_n 0, 1) := by decide +kernel
theorem d_R_deliver_8 : decode b_R_deliver 8 = .ok (.getfield 59, 3) := by decide +kernel
theorem d_R_deliver_11 : decode b_R_deliver 11 = .ok (.iload_n 1, 1) := by decide +kernel
theorem d_R_deliver_12 : decode b_R_deliver 12 = .ok (.iaload, 1) := by decide +kernel
theorem d_R_deliver_13 : decode b_R_deliver 13 = .ok (.ifCond .ne 11, 3) := by decide +kernel
theorem d_R_deliver_16 : decode b_R_deliver 16 = .ok (.aload_n 0, 1) := by decide +kernel
theorem d_R_deliver_17 : decode b_R_deliver 17 = .ok (.iload_n 1, 1) := by decide +kernel
theorem d_R_deliver_18 : decode b_R_deliver 18 = .ok (.invokevirtual 147, 3) := by decide +kernel
theorem d_R_deliver_21 : decode b_R_deliver 21 = .ok (.goto 104, 3) := by decide +kernel
theorem d_R_deliver_24 : decode b_R_deliver 24 = .ok (.aload_n 0, 1) := by decide +kernel
theorem d_R_deliver_25 : decode b_R_deliver 25 = .ok (.getfield 59, 3) := by decide +kernel
theorem d_R_deliver_28 : decode b_R_deliver 28 = .ok (.iload_n 1, 1) := by decide +kernel
theorem d_R_deliver_29 : decode b_R_deliver 29 = .ok (.iaload, 1) := by decide +kernel
theorem d_R_deliver_30 : decode b_R_deliver 30 = .ok (.iconst 1, 1) := by decide +kernel
theorem d_R_deliver_31 : decode b_R_deliver 31 = .ok (.if_icmp .ne 59, 3) := by decide +kernel
theorem d_R_deliver_34 : decode b_R_deliver 34 = .ok (.aload_n 0, 1) := by decide +kernel
theorem d_R_deliver_35 : decode b_R_deliver 35 = .ok (.getfield 50, 3) := by decide +kernel
theorem d_R_deliver_38 : decode b_R_deliver 38 = .ok (.iload_n 2, 1) := by decide +kernel
theorem d_R_deliver_39 : decode b_R_deliver 39 = .ok (.dup2, 1) := by decide +kernel
theorem d_R_deliver_40 : decode b_R_deliver 40 = .ok (.iaload, 1) := by decide +kernel
theorem d_R_deliver_41 : decode b_R_deliver 41 = .ok (.iconst 1, 1) := by decide +kernel
theorem d_R_deliver_42 : decode b_R_deliver 42 = .ok (.aload_n 0, 1) := by decide +kernel
theorem d_R_deliver_43 : decode b_R_deliver 43 = .ok (.getfield 62, 3) := by decide +kernel
theorem d_R_deliver_46 : decode b_R_deliver 46 = .ok (.iload_n 1, 1) := by decide +kernel
theorem d_R_deliver_47 : decode b_R_deliver 47 = .ok (.iaload, 1) := by decide +kernel
theorem d_R_deliver_48 : decode b_R_deliver 48 = .ok (.ishl, 1) := by decide +kernel
theorem d_R_deliver_49 : decode b_R_deliver 49 = .ok (.ior, 1) := by decide +kernel
theorem d_R_deliver_50 : decode b_R_deliver 50 = .ok (.iastore, 1) := by decide +kernel
theorem d_R_deliver_51 : decode b_R_deliver 51 = .ok (.aload_n 0, 1) := by decide +kernel
theorem d_R_deliver_52 : decode b_R_deliver 52 = .ok (.getfield 53, 3) := by decide +kernel
theorem d_R_deliver_55 : decode b_R_deliver 55 = .ok (.iload_n 2, 1) := by decide +kernel
theorem d_R_deliver_56 : decode b_R_deliver 56 = .ok (.dup2, 1) := by decide +kernel
theorem d_R_deliver_57 : decode b_R_deliver 57 = .ok (.iaload, 1) := by decide +kernel
theorem d_R_deliver_58 : decode b_R_deliver 58 = .ok (.aload_n 0, 1) := by decide +kernel
theorem d_R_deliver_59 : decode b_R_deliver 59 = .ok (.getfield 74, 3) := by decide +kernel
theorem d_R_deliver_62 : decode b_R_deliver 62 = .ok (.iload_n 1, 1) := by decide +kernel
theorem d_R_deliver_63 : decode b_R_deliver 63 = .ok (.iaload, 1) := by decide +kernel
theorem d_R_deliver_64 : decode b_R_deliver 64 = .ok (.iconst 1, 1) := by decide +kernel
theorem d_R_deliver_65 : decode b_R_deliver 65 = .ok (.if_icmp .ne 7, 3) := by decide +kernel
theorem d_R_deliver_68 : decode b_R_deliver 68 = .ok (.iconst 0, 1) := by decide +kernel
theorem d_R_deliver_69 : decode b_R_deliver 69 = .ok (.goto 11, 3) := by decide +kernel
theorem d_R_deliver_72 : decode b_R_deliver 72 = .ok (.iconst 1, 1) := by decide +kernel
theorem d_R_deliver_73 : decode b_R_deliver 73 = .ok (.aload_n 0, 1) := by decide +kernel
theorem d_R_deliver_74 : decode b_R_deliver 74 = .ok (.getfield 62, 3) := by decide +kernel
theorem d_R_deliver_77 : decode b_R_deliver 77 = .ok (.iload_n 1, 1) := by decide +kernel
theorem d_R_deliver_78 : decode b_R_deliver 78 = .ok (.iaload, 1) := by decide +kernel
theorem d_R_deliver_79 : decode b_R_deliver 79 = .ok (.ishl, 1) := by decide +kernel
theorem d_R_deliver_80 : decode b_R_deliver 80 = .ok (.ior, 1) := by decide +kernel
theorem d_R_deliver_81 : decode b_R_deliver 81 = .ok (.iastore, 1) := by decide +kernel
theorem d_R_deliver_82 : decode b_R_deliver 82 = .ok (.aload_n 0, 1) := by decide +kernel
theorem d_R_deliver_83 : decode b_R_deliver 83 = .ok (.iload_n 2, 1) := by decide +kernel
theorem d_R_deliver_84 : decode b_R_deliver 84 = .ok (.invokevirtual 129, 3) := by decide +kernel
theorem d_R_deliver_87 : decode b_R_deliver 87 = .ok (.goto 38, 3) := by decide +kernel
theorem d_R_deliver_90 : decode b_R_deliver 90 = .ok (.aload_n 0, 1) := by decide +kernel
theorem d_R_deliver_91 : decode b_R_deliver 91 = .ok (.getfield 38, 3) := by decide +kernel
theorem d_R_deliver_94 : decode b_R_deliver 94 = .ok (.iload_n 2, 1) := by decide +kernel
theorem d_R_deliver_95 : decode b_R_deliver 95 = .ok (.iaload, 1) := by decide +kernel
theorem d_R_deliver_96 : decode b_R_deliver 96 = .ok (.aload_n 0, 1) := by decide +kernel
theorem d_R_deliver_97 : decode b_R_deliver 97 = .ok (.getfield 68, 3) := by decide +kernel
theorem d_R_deliver_100 : decode b_R_deliver 100 = .ok (.iload_n 1, 1) := by decide +kernel
theorem d_R_deliver_101 : decode b_R_deliver 101 = .ok (.iaload, 1) := by decide +kernel
theorem d_R_deliver_102 : decode b_R_deliver 102 = .ok (.if_icmp .ne 23, 3) := by decide +kernel
theorem d_R_deliver_105 : decode b_R_deliver 105 = .ok (.aload_n 0, 1) := by decide +kernel
theorem d_R_deliver_106 : decode b_R_deliver 106 = .ok (.iload_n 2, 1) := by decide +kernel
theorem d_R_deliver_107 : decode b_R_deliver 107 = .ok (.aload_n 0, 1) := by decide +kernel
theorem d_R_deliver_108 : decode b_R_deliver 108 = .ok (.getfield 74, 3) := by decide +kernel
theorem d_R_deliver_111 : decode b_R_deliver 111 = .ok (.iload_n 1, 1) := by decide +kernel
theorem d_R_deliver_112 : decode b_R_deliver 112 = .ok (.iaload, 1) := by decide +kernel
theorem d_R_deliver_113 : decode b_R_deliver 113 = .ok (.iconst 1, 1) := by decide +kernel
theorem d_R_deliver_114 : decode b_R_deliver 114 = .ok (.if_icmp .ne 7, 3) := by decide +kernel
theorem d_R_deliver_117 : decode b_R_deliver 117 = .ok (.iconst 1, 1) := by decide +kernel
theorem d_R_deliver_118 : decode b_R_deliver 118 = .ok (.goto 4, 3) := by decide +kernel
theorem d_R_deliver_121 : decode b_R_deliver 121 = .ok (.iconst 0, 1) := by decide +kernel
theorem d_R_deliver_122 : decode b_R_deliver 122 = .ok (.invokevirtual 133, 3) := by decide +kernel
theorem d_R_deliver_125 : decode b_R_deliver 125 = .ok (.return_, 1) := by decide +kernel
theorem d_R_tick_0 : decode b_R_tick 0 = .ok (.aload_n 0, 1) := by decide +kernel
theorem d_R_tick_1 : decode b_R_tick 1 = .ok (.getfield 116, 3) := by decide +kernel
theorem d_R_tick_4 : decode b_R_tick 4 = .ok (.istore_n 1, 1) := by decide +kernel
theorem d_R_tick_5 : decode b_R_tick 5 = .ok (.iconst 0, 1) := by decide +kernel
theorem d_R_tick_6 : decode b_R_tick 6 = .ok (.istore_n 2, 1) := by decide +kernel
theorem d_R_tick_7 : decode b_R_tick 7 = .ok (.iload_n 2, 1) := by decide +kernel
theorem d_R_tick_8 : decode b_R_tick 8 = .ok (.iload_n 1, 1) := by decide +kernel
theorem d_R_tick_9 : decode b_R_tick 9 = .ok (.if_icmp .ge 14, 3) := by decide +kernel
theorem d_R_tick_12 : decode b_R_tick 12 = .ok (.aload_n 0, 1) := by decide +kernel
theorem d_R_tick_13 : decode b_R_tick 13 = .ok (.iload_n 2, 1) := by decide +kernel
theorem d_R_tick_14 : decode b_R_tick 14 = .ok (.invokevirtual 150, 3) := by decide +kernel
theorem d_R_tick_17 : decode b_R_tick 17 = .ok (.iinc 2 1, 3) := by decide +kernel
theorem d_R_tick_20 : decode b_R_tick 20 = .ok (.goto (-13), 3) := by decide +kernel
theorem d_R_tick_23 : decode b_R_tick 23 = .ok (.aload_n 0, 1) := by decide +kernel
theorem d_R_tick_24 : decode b_R_tick 24 = .ok (.aload_n 0, 1) := by decide +kernel
theorem d_R_tick_25 : decode b_R_tick 25 = .ok (.getfield 116, 3) := by decide +kernel
theorem d_R_tick_28 : decode b_R_tick 28 = .ok (.iload_n 1, 1) := by decide +kernel
theorem d_R_tick_29 : decode b_R_tick 29 = .ok (.isub, 1) := by decide +kernel
theorem d_R_tick_30 : decode b_R_tick 30 = .ok (.putfield 116, 3) := by decide +kernel
theorem d_R_tick_33 : decode b_R_tick 33 = .ok (.iconst 0, 1) := by decide +kernel
theorem d_R_tick_34 : decode b_R_tick 34 = .ok (.istore_n 2, 1) := by decide +kernel
theorem d_R_tick_35 : decode b_R_tick 35 = .ok (.iload_n 2, 1) := by decide +kernel
theorem d_R_tick_36 : decode b_R_tick 36 = .ok (.aload_n 0, 1) := by decide +kernel
theorem d_R_tick_37 : decode b_R_tick 37 = .ok (.getfield 116, 3) := by decide +kernel
theorem d_R_tick_40 : decode b_R_tick 40 = .ok (.if_icmp .ge 93, 3) := by decide +kernel
theorem d_R_tick_43 : decode b_R_tick 43 = .ok (.aload_n 0, 1) := by decide +kernel
theorem d_R_tick_44 : decode b_R_tick 44 = .ok (.getfield 59, 3) := by decide +kernel
theorem d_R_tick_47 : decode b_R_tick 47 = .ok (.iload_n 2, 1) := by decide +kernel
theorem d_R_tick_48 : decode b_R_tick 48 = .ok (.aload_n 0, 1) := by decide +kernel
theorem d_R_tick_49 : decode b_R_tick 49 = .ok (.getfield 59, 3) := by decide +kernel
theorem d_R_tick_52 : decode b_R_tick 52 = .ok (.iload_n 2, 1) := by decide +kernel
theorem d_R_tick_53 : decode b_R_tick 53 = .ok (.iload_n 1, 1) := by decide +kernel
theorem d_R_tick_54 : decode b_R_tick 54 = .ok (.iadd, 1) := by decide +kernel
theorem d_R_tick_55 : decode b_R_tick 55 = .ok (.iaload, 1) := by decide +kernel
theorem d_R_tick_56 : decode b_R_tick 56 = .ok (.iastore, 1) := by decide +kernel
theorem d_R_tick_57 : decode b_R_tick 57 = .ok (.aload_n 0, 1) := by decide +kernel
theorem d_R_tick_58 : decode b_R_tick 58 = .ok (.getfield 62, 3) := by decide +kernel
theorem d_R_tick_61 : decode b_R_tick 61 = .ok (.iload_n 2, 1) := by decide +kernel
theorem d_R_tick_62 : decode b_R_tick 62 = .ok (.aload_n 0, 1) := by decide +kernel
theorem d_R_tick_63 : decode b_R_tick 63 = .ok (.getfield 62, 3) := by decide +kernel
theorem d_R_tick_66 : decode b_R_tick 66 = .ok (.iload_n 2, 1) := by decide +kernel
theorem d_R_tick_67 : decode b_R_tick 67 = .ok (.iload_n 1, 1) := by decide +kernel
theorem d_R_tick_68 : decode b_R_tick 68 = .ok (.iadd, 1) := by decide +kernel
theorem d_R_tick_69 : decode b_R_tick 69 = .ok (.iaload, 1) := by decide +kernel
theorem d_R_tick_70 : decode b_R_tick 70 = .ok (.iastore, 1) := by decide +kernel
theorem d_R_tick_71 : decode b_R_tick 71 = .ok (.aload_n 0, 1) := by decide +kernel
theorem d_R_tick_72 : decode b_R_tick 72 = .ok (.getfield 65, 3) := by decide +kernel
theorem d_R_tick_75 : decode b_R_tick 75 = .ok (.iload_n 2, 1) := by decide +kernel
theorem d_R_tick_76 : decode b_R_tick 76 = .ok (.aload_n 0, 1) := by decide +kernel
theorem d_R_tick_77 : decode b_R_tick 77 = .ok (.getfield 65, 3) := by decide +kernel
theorem d_R_tick_80 : decode b_R_tick 80 = .ok (.iload_n 2, 1) := by decide +kernel
theorem d_R_tick_81 : decode b_R_tick 81 = .ok (.iload_n 1, 1) := by decide +kernel
theorem d_R_tick_82 : decode b_R_tick 82 = .ok (.iadd, 1) := by decide +kernel
theorem d_R_tick_83 : decode b_R_tick 83 = .ok (.iaload, 1) := by decide +kernel
theorem d_R_tick_84 : decode b_R_tick 84 = .ok (.iastore, 1) := by decide +kernel
theorem d_R_tick_85 : decode b_R_tick 85 = .ok (.aload_n 0, 1) := by decide +kernel
theorem d_R_tick_86 : decode b_R_tick 86 = .ok (.getfield 68, 3) := by decide +kernel
theorem d_R_tick_89 : decode b_R_tick 89 = .ok (.iload_n 2, 1) := by decide +kernel
theorem d_R_tick_90 : decode b_R_tick 90 = .ok (.aload_n 0, 1) := by decide +kernel
theorem d_R_tick_91 : decode b_R_tick 91 = .ok (.getfield 68, 3) := by decide +kernel
theorem d_R_tick_94 : decode b_R_tick 94 = .ok (.iload_n 2, 1) := by decide +kernel
theorem d_R_tick_95 : decode b_R_tick 95 = .ok (.iload_n 1, 1) := by decide +kernel
theorem d_R_tick_96 : decode b_R_tick 96 = .ok (.iadd, 1) := by decide +kernel
theorem d_R_tick_97 : decode b_R_tick 97 = .ok (.iaload, 1) := by decide +kernel
theorem d_R_tick_98 : decode b_R_tick 98 = .ok (.iastore, 1) := by decide +kernel
theorem d_R_tick_99 : decode b_R_tick 99 = .ok (.aload_n 0, 1) := by decide +kernel
theorem d_R_tick_100 : decode b_R_tick 100 = .ok (.getfield 71, 3) := by decide +kernel
theorem d_R_tick_103 : decode b_R_tick 103 = .ok (.iload_n 2, 1) := by decide +kernel
theorem d_R_tick_104 : decode b_R_tick 104 = .ok (.aload_n 0, 1) := by decide +kernel
theorem d_R_tick_105 : decode b_R_tick 105 = .ok (.getfield 71, 3) := by decide +kernel
theorem d_R_tick_108 : decode b_R_tick 108 = .ok (.iload_n 2, 1) := by decide +kernel
theorem d_R_tick_109 : decode b_R_tick 109 = .ok (.iload_n 1, 1) := by decide +kernel
theorem d_R_tick_110 : decode b_R_tick 110 = .ok (.iadd, 1) := by decide +kernel
theorem d_R_tick_111 : decode b_R_tick 111 = .ok (.baload, 1) := by decide +kernel
theorem d_R_tick_112 : decode b_R_tick 112 = .ok (.bastore, 1) := by decide +kernel
theorem d_R_tick_113 : decode b_R_tick 113 = .ok (.aload_n 0, 1) := by decide +kernel
theorem d_R_tick_114 : decode b_R_tick 114 = .ok (.getfield 74, 3) := by decide +kernel
theorem d_R_tick_117 : decode b_R_tick 117 = .ok (.iload_n 2, 1) := by decide +kernel
theorem d_R_tick_118 : decode b_R_tick 118 = .ok (.aload_n 0, 1) := by decide +kernel
theorem d_R_tick_119 : decode b_R_tick 119 = .ok (.getfield 74, 3) := by decide +kernel
theorem d_R_tick_122 : decode b_R_tick 122 = .ok (.iload_n 2, 1) := by decide +kernel
theorem d_R_tick_123 : decode b_R_tick 123 = .ok (.iload_n 1, 1) := by decide +kernel
theorem d_R_tick_124 : decode b_R_tick 124 = .ok (.iadd, 1) := by decide +kernel
theorem d_R_tick_125 : decode b_R_tick 125 = .ok (.iaload, 1) := by decide +kernel
theorem d_R_tick_126 : decode b_R_tick 126 = .ok (.iastore, 1) := by decide +kernel
theorem d_R_tick_127 : decode b_R_tick 127 = .ok (.iinc 2 1, 3) := by decide +kernel
theorem d_R_tick_130 : decode b_R_tick 130 = .ok (.goto (-95), 3) := by decide +kernel
theorem d_R_tick_133 : decode b_R_tick 133 = .ok (.iload_n 1, 1) := by decide +kernel
theorem d_R_tick_134 : decode b_R_tick 134 = .ok (.ireturn, 1) := by decide +kernel
theorem d_R_begin_0 : decode b_R_begin 0 = .ok (.aload_n 0, 1) := by decide +kernel
theorem d_R_begin_1 : decode b_R_begin 1 = .ok (.dup, 1) := by decide +kernel
theorem d_R_begin_2 : decode b_R_begin 2 = .ok (.getfield 153, 3) := by decide +kernel
theorem d_R_begin_5 : decode b_R_begin 5 = .ok (.iconst 1, 1) := by decide +kernel
theorem d_R_begin_6 : decode b_R_begin 6 = .ok (.iadd, 1) := by decide +kernel
theorem d_R_begin_7 : decode b_R_begin 7 = .ok (.putfield 153, 3) := by decide +kernel
theorem d_R_begin_10 : decode b_R_begin 10 = .ok (.aload_n 0, 1) := by decide +kernel
theorem d_R_begin_11 : decode b_R_begin 11 = .ok (.iload_n 1, 1) := by decide +kernel
theorem d_R_begin_12 : decode b_R_begin 12 = .ok (.aload_n 0, 1) := by decide +kernel
theorem d_R_begin_13 : decode b_R_begin 13 = .ok (.getfield 153, 3) := by decide +kernel
theorem d_R_begin_16 : decode b_R_begin 16 = .ok (.iload_n 2, 1) := by decide +kernel
theorem d_R_begin_17 : decode b_R_begin 17 = .ok (.iconst (-1), 1) := by decide +kernel
theorem d_R_begin_18 : decode b_R_begin 18 = .ok (.invokevirtual 143, 3) := by decide +kernel
theorem d_R_begin_21 : decode b_R_begin 21 = .ok (.aload_n 0, 1) := by decide +kernel
theorem d_R_begin_22 : decode b_R_begin 22 = .ok (.getfield 153, 3) := by decide +kernel
theorem d_R_begin_25 : decode b_R_begin 25 = .ok (.ireturn, 1) := by decide +kernel
theorem d_R_checkpoint_0 : decode b_R_checkpoint 0 = .ok (.aload_n 0, 1) := by decide +kernel
theorem d_R_checkpoint_1 : decode b_R_checkpoint 1 = .ok (.iload_n 1, 1) := by decide +kernel
theorem d_R_checkpoint_2 : decode b_R_checkpoint 2 = .ok (.invokevirtual 87, 3) := by decide +kernel
theorem d_R_checkpoint_5 : decode b_R_checkpoint 5 = .ok (.ifCond .ne 5, 3) := by decide +kernel
theorem d_R_checkpoint_8 : decode b_R_checkpoint 8 = .ok (.iconst (-1), 1) := by decide +kernel
theorem d_R_checkpoint_9 : decode b_R_checkpoint 9 = .ok (.ireturn, 1) := by decide +kernel
theorem d_R_checkpoint_10 : decode b_R_checkpoint 10 = .ok (.aload_n 0, 1) := by decide +kernel
theorem d_R_checkpoint_11 : decode b_R_checkpoint 11 = .ok (.getfield 34, 3) := by decide +kernel
theorem d_R_checkpoint_14 : decode b_R_checkpoint 14 = .ok (.iload_n 1, 1) := by decide +kernel
theorem d_R_checkpoint_15 : decode b_R_checkpoint 15 = .ok (.baload, 1) := by decide +kernel
theorem d_R_checkpoint_16 : decode b_R_checkpoint 16 = .ok (.ifCond .eq 8, 3) := by decide +kernel
theorem d_R_checkpoint_19 : decode b_R_checkpoint 19 = .ok (.bipush (-2), 2) := by decide +kernel
theorem d_R_checkpoint_21 : decode b_R_checkpoint 21 = .ok (.goto 23, 3) := by decide +kernel
theorem d_R_checkpoint_24 : decode b_R_checkpoint 24 = .ok (.aload_n 0, 1) := by decide +kernel
theorem d_R_checkpoint_25 : decode b_R_checkpoint 25 = .ok (.getfield 38, 3) := by decide +kernel
theorem d_R_checkpoint_28 : decode b_R_checkpoint 28 = .ok (.iload_n 1, 1) := by decide +kernel
theorem d_R_checkpoint_29 : decode b_R_checkpoint 29 = .ok (.iaload, 1) := by decide +kernel
theorem d_R_checkpoint_30 : decode b_R_checkpoint 30 = .ok (.ifCond .le 8, 3) := by decide +kernel
theorem d_R_checkpoint_33 : decode b_R_checkpoint 33 = .ok (.bipush (-3), 2) := by decide +kernel
theorem d_R_checkpoint_35 : decode b_R_checkpoint 35 = .ok (.goto 9, 3) := by decide +kernel
theorem d_R_checkpoint_38 : decode b_R_checkpoint 38 = .ok (.aload_n 0, 1) := by decide +kernel
theorem d_R_checkpoint_39 : decode b_R_checkpoint 39 = .ok (.iload_n 1, 1) := by decide +kernel
theorem d_R_checkpoint_40 : decode b_R_checkpoint 40 = .ok (.iconst 0, 1) := by decide +kernel
theorem d_R_checkpoint_41 : decode b_R_checkpoint 41 = .ok (.invokevirtual 156, 3) := by decide +kernel
theorem d_R_checkpoint_44 : decode b_R_checkpoint 44 = .ok (.ireturn, 1) := by decide +kernel
theorem d_R_crash_0 : decode b_R_crash 0 = .ok (.aload_n 0, 1) := by decide +kernel
theorem d_R_crash_1 : decode b_R_crash 1 = .ok (.iload_n 1, 1) := by decide +kernel
theorem d_R_crash_2 : decode b_R_crash 2 = .ok (.invokevirtual 87, 3) := by decide +kernel
theorem d_R_crash_5 : decode b_R_crash 5 = .ok (.ifCond .ne 5, 3) := by decide +kernel
theorem d_R_crash_8 : decode b_R_crash 8 = .ok (.iconst (-1), 1) := by decide +kernel
theorem d_R_crash_9 : decode b_R_crash 9 = .ok (.ireturn, 1) := by decide +kernel
theorem d_R_crash_10 : decode b_R_crash 10 = .ok (.aload_n 0, 1) := by decide +kernel
theorem d_R_crash_11 : decode b_R_crash 11 = .ok (.getfield 34, 3) := by decide +kernel
theorem d_R_crash_14 : decode b_R_crash 14 = .ok (.iload_n 1, 1) := by decide +kernel
theorem d_R_crash_15 : decode b_R_crash 15 = .ok (.baload, 1) := by decide +kernel
theorem d_R_crash_16 : decode b_R_crash 16 = .ok (.ifCond .ne 12, 3) := by decide +kernel
theorem d_R_crash_19 : decode b_R_crash 19 = .ok (.aload_n 0, 1) := by decide +kernel
theorem d_R_crash_20 : decode b_R_crash 20 = .ok (.getfield 38, 3) := by decide +kernel
theorem d_R_crash_23 : decode b_R_crash 23 = .ok (.iload_n 1, 1) := by decide +kernel
theorem d_R_crash_24 : decode b_R_crash 24 = .ok (.iaload, 1) := by decide +kernel
theorem d_R_crash_25 : decode b_R_crash 25 = .ok (.ifCond .le 20, 3) := by decide +kernel
theorem d_R_crash_28 : decode b_R_crash 28 = .ok (.aload_n 0, 1) := by decide +kernel
theorem d_R_crash_29 : decode b_R_crash 29 = .ok (.getfield 34, 3) := by decide +kernel
theorem d_R_crash_32 : decode b_R_crash 32 = .ok (.iload_n 1, 1) := by decide +kernel
theorem d_R_crash_33 : decode b_R_crash 33 = .ok (.baload, 1) := by decide +kernel
theorem d_R_crash_34 : decode b_R_crash 34 = .ok (.ifCond .eq 8, 3) := by decide +kernel
theorem d_R_crash_37 : decode b_R_crash 37 = .ok (.bipush (-2), 2) := by decide +kernel
theorem d_R_crash_39 : decode b_R_crash 39 = .ok (.goto 5, 3) := by decide +kernel
theorem d_R_crash_42 : decode b_R_crash 42 = .ok (.bipush (-3), 2) := by decide +kernel
theorem d_R_crash_44 : decode b_R_crash 44 = .ok (.ireturn, 1) := by decide +kernel
theorem d_R_crash_45 : decode b_R_crash 45 = .ok (.aload_n 0, 1) := by decide +kernel
theorem d_R_crash_46 : decode b_R_crash 46 = .ok (.getfield 34, 3) := by decide +kernel
theorem d_R_crash_49 : decode b_R_crash 49 = .ok (.iload_n 1, 1) := by decide +kernel
theorem d_R_crash_50 : decode b_R_crash 50 = .ok (.iconst 1, 1) := by decide +kernel
theorem d_R_crash_51 : decode b_R_crash 51 = .ok (.bastore, 1) := by decide +kernel
theorem d_R_crash_52 : decode b_R_crash 52 = .ok (.iconst 0, 1) := by decide +kernel
theorem d_R_crash_53 : decode b_R_crash 53 = .ok (.ireturn, 1) := by decide +kernel
theorem d_R_restart_0 : decode b_R_restart 0 = .ok (.aload_n 0, 1) := by decide +kernel
theorem d_R_restart_1 : decode b_R_restart 1 = .ok (.iload_n 1, 1) := by decide +kernel
theorem d_R_restart_2 : decode b_R_restart 2 = .ok (.invokevirtual 87, 3) := by decide +kernel
theorem d_R_restart_5 : decode b_R_restart 5 = .ok (.ifCond .ne 5, 3) := by decide +kernel
theorem d_R_restart_8 : decode b_R_restart 8 = .ok (.iconst (-1), 1) := by decide +kernel
theorem d_R_restart_9 : decode b_R_restart 9 = .ok (.ireturn, 1) := by decide +kernel
theorem d_R_restart_10 : decode b_R_restart 10 = .ok (.aload_n 0, 1) := by decide +kernel
theorem d_R_restart_11 : decode b_R_restart 11 = .ok (.getfield 34, 3) := by decide +kernel
theorem d_R_restart_14 : decode b_R_restart 14 = .ok (.iload_n 1, 1) := by decide +kernel
theorem d_R_restart_15 : decode b_R_restart 15 = .ok (.baload, 1) := by decide +kernel
theorem d_R_restart_16 : decode b_R_restart 16 = .ok (.ifCond .ne 8, 3) := by decide +kernel
theorem d_R_restart_19 : decode b_R_restart 19 = .ok (.bipush (-2), 2) := by decide +kernel
theorem d_R_restart_21 : decode b_R_restart 21 = .ok (.goto 23, 3) := by decide +kernel
theorem d_R_restart_24 : decode b_R_restart 24 = .ok (.aload_n 0, 1) := by decide +kernel
theorem d_R_restart_25 : decode b_R_restart 25 = .ok (.getfield 38, 3) := by decide +kernel
theorem d_R_restart_28 : decode b_R_restart 28 = .ok (.iload_n 1, 1) := by decide +kernel
theorem d_R_restart_29 : decode b_R_restart 29 = .ok (.iaload, 1) := by decide +kernel
theorem d_R_restart_30 : decode b_R_restart 30 = .ok (.ifCond .le 8, 3) := by decide +kernel
theorem d_R_restart_33 : decode b_R_restart 33 = .ok (.bipush (-3), 2) := by decide +kernel
theorem d_R_restart_35 : decode b_R_restart 35 = .ok (.goto 9, 3) := by decide +kernel
theorem d_R_restart_38 : decode b_R_restart 38 = .ok (.aload_n 0, 1) := by decide +kernel
theorem d_R_restart_39 : decode b_R_restart 39 = .ok (.iload_n 1, 1) := by decide +kernel
theorem d_R_restart_40 : decode b_R_restart 40 = .ok (.iconst 1, 1) := by decide +kernel
theorem d_R_restart_41 : decode b_R_restart 41 = .ok (.invokevirtual 156, 3) := by decide +kernel
theorem d_R_restart_44 : decode b_R_restart 44 = .ok (.ireturn, 1) := by decide +kernel
theorem d_R_value_0 : decode b_R_value 0 = .ok (.aload_n 0, 1) := by decide +kernel
theorem d_R_value_1 : decode b_R_value 1 = .ok (.iload_n 1, 1) := by decide +kernel
theorem d_R_value_2 : decode b_R_value 2 = .ok (.invokevirtual 87, 3) := by decide +kernel
theorem d_R_value_5 : decode b_R_value 5 = .ok (.ifCond .eq 17, 3) := by decide +kernel
theorem d_R_value_8 : decode b_R_value 8 = .ok (.aload_n 0, 1) := by decide +kernel
theorem d_R_value_9 : decode b_R_value 9 = .ok (.iload_n 1, 1) := by decide +kernel
theorem d_R_value_10 : decode b_R_value 10 = .ok (.aload_n 0, 1) := by decide +kernel
theorem d_R_value_11 : decode b_R_value 11 = .ok (.getfield 7, 3) := by decide +kernel
theorem d_R_value_14 : decode b_R_value 14 = .ok (.iload_n 1, 1) := by decide +kernel
theorem d_R_value_15 : decode b_R_value 15 = .ok (.iaload, 1) := by decide +kernel
theorem d_R_value_16 : decode b_R_value 16 = .ok (.invokevirtual 91, 3) := by decide +kernel
theorem d_R_value_19 : decode b_R_value 19 = .ok (.goto 4, 3) := by decide +kernel
theorem d_R_value_22 : decode b_R_value 22 = .ok (.iconst 0, 1) := by decide +kernel
theorem d_R_value_23 : decode b_R_value 23 = .ok (.ireturn, 1) := by decide +kernel
theorem d_R_kept_0 : decode b_R_kept 0 = .ok (.aload_n 0, 1) := by decide +kernel
theorem d_R_kept_1 : decode b_R_kept 1 = .ok (.iload_n 1, 1) := by decide +kernel
theorem d_R_kept_2 : decode b_R_kept 2 = .ok (.invokevirtual 87, 3) := by decide +kernel
theorem d_R_kept_5 : decode b_R_kept 5 = .ok (.ifCond .eq 17, 3) := by decide +kernel
theorem d_R_kept_8 : decode b_R_kept 8 = .ok (.aload_n 0, 1) := by decide +kernel
theorem d_R_kept_9 : decode b_R_kept 9 = .ok (.iload_n 1, 1) := by decide +kernel
theorem d_R_kept_10 : decode b_R_kept 10 = .ok (.aload_n 0, 1) := by decide +kernel
theorem d_R_kept_11 : decode b_R_kept 11 = .ok (.getfield 25, 3) := by decide +kernel
theorem d_R_kept_14 : decode b_R_kept 14 = .ok (.iload_n 1, 1) := by decide +kernel
theorem d_R_kept_15 : decode b_R_kept 15 = .ok (.iaload, 1) := by decide +kernel
theorem d_R_kept_16 : decode b_R_kept 16 = .ok (.invokevirtual 91, 3) := by decide +kernel
theorem d_R_kept_19 : decode b_R_kept 19 = .ok (.goto 4, 3) := by decide +kernel
theorem d_R_kept_22 : decode b_R_kept 22 = .ok (.iconst 0, 1) := by decide +kernel
theorem d_R_kept_23 : decode b_R_kept 23 = .ok (.ireturn, 1) := by decide +kernel
theorem d_R_label_0 : decode b_R_label 0 = .ok (.aload_n 0, 1) := by decide +kernel
theorem d_R_label_1 : decode b_R_label 1 = .ok (.iload_n 1, 1) := by decide +kernel
theorem d_R_label_2 : decode b_R_label 2 = .ok (.iload_n 2, 1) := by decide +kernel
theorem d_R_label_3 : decode b_R_label 3 = .ok (.invokevirtual 106, 3) := by decide +kernel
theorem d_R_label_6 : decode b_R_label 6 = .ok (.ifCond .eq 12, 3) := by decide +kernel
theorem d_R_label_9 : decode b_R_label 9 = .ok (.iload_n 3, 1) := by decide +kernel
theorem d_R_label_10 : decode b_R_label 10 = .ok (.ifCond .lt 8, 3) := by decide +kernel
theorem d_R_label_13 : decode b_R_label 13 = .ok (.iload_n 3, 1) := by decide +kernel
theorem d_R_label_14 : decode b_R_label 14 = .ok (.iconst 3, 1) := by decide +kernel
theorem d_R_label_15 : decode b_R_label 15 = .ok (.if_icmp .le 5, 3) := by decide +kernel
theorem d_R_label_18 : decode b_R_label 18 = .ok (.iconst (-1), 1) := by decide +kernel
theorem d_R_label_19 : decode b_R_label 19 = .ok (.ireturn, 1) := by decide +kernel
theorem d_R_label_20 : decode b_R_label 20 = .ok (.iload_n 3, 1) := by decide +kernel
theorem d_R_label_21 : decode b_R_label 21 = .ok (.iconst 2, 1) := by decide +kernel
theorem d_R_label_22 : decode b_R_label 22 = .ok (.if_icmp .ge 12, 3) := by decide +kernel
theorem d_R_label_25 : decode b_R_label 25 = .ok (.aload_n 0, 1) := by decide +kernel
theorem d_R_label_26 : decode b_R_label 26 = .ok (.getfield 7, 3) := by decide +kernel
theorem d_R_label_29 : decode b_R_label 29 = .ok (.iload_n 1, 1) := by decide +kernel
theorem d_R_label_30 : decode b_R_label 30 = .ok (.iaload, 1) := by decide +kernel
theorem d_R_label_31 : decode b_R_label 31 = .ok (.goto 9, 3) := by decide +kernel
theorem d_R_label_34 : decode b_R_label 34 = .ok (.aload_n 0, 1) := by decide +kernel
theorem d_R_label_35 : decode b_R_label 35 = .ok (.getfield 25, 3) := by decide +kernel
theorem d_R_label_38 : decode b_R_label 38 = .ok (.iload_n 1, 1) := by decide +kernel
theorem d_R_label_39 : decode b_R_label 39 = .ok (.iaload, 1) := by decide +kernel
theorem d_R_label_40 : decode b_R_label 40 = .ok (.istore 4, 2) := by decide +kernel
theorem d_R_label_42 : decode b_R_label 42 = .ok (.iload_n 3, 1) := by decide +kernel
theorem d_R_label_43 : decode b_R_label 43 = .ok (.iconst 2, 1) := by decide +kernel
theorem d_R_label_44 : decode b_R_label 44 = .ok (.irem, 1) := by decide +kernel
theorem d_R_label_45 : decode b_R_label 45 = .ok (.ifCond .ne 14, 3) := by decide +kernel
theorem d_R_label_48 : decode b_R_label 48 = .ok (.aload_n 0, 1) := by decide +kernel
theorem d_R_label_49 : decode b_R_label 49 = .ok (.iload_n 1, 1) := by decide +kernel
theorem d_R_label_50 : decode b_R_label 50 = .ok (.iload_n 2, 1) := by decide +kernel
theorem d_R_label_51 : decode b_R_label 51 = .ok (.iload 4, 2) := by decide +kernel
theorem d_R_label_53 : decode b_R_label 53 = .ok (.invokevirtual 95, 3) := by decide +kernel
theorem d_R_label_56 : decode b_R_label 56 = .ok (.goto 11, 3) := by decide +kernel
theorem d_R_label_59 : decode b_R_label 59 = .ok (.aload_n 0, 1) := by decide +kernel
theorem d_R_label_60 : decode b_R_label 60 = .ok (.iload_n 1, 1) := by decide +kernel
theorem d_R_label_61 : decode b_R_label 61 = .ok (.iload_n 2, 1) := by decide +kernel
theorem d_R_label_62 : decode b_R_label 62 = .ok (.iload 4, 2) := by decide +kernel
theorem d_R_label_64 : decode b_R_label 64 = .ok (.invokevirtual 119, 3) := by decide +kernel
theorem d_R_label_67 : decode b_R_label 67 = .ok (.ireturn, 1) := by decide +kernel
theorem d_R_waiting_0 : decode b_R_waiting 0 = .ok (.aload_n 0, 1) := by decide +kernel
theorem d_R_waiting_1 : decode b_R_waiting 1 = .ok (.iload_n 1, 1) := by decide +kernel
theorem d_R_waiting_2 : decode b_R_waiting 2 = .ok (.iload_n 2, 1) := by decide +kernel
theorem d_R_waiting_3 : decode b_R_waiting 3 = .ok (.invokevirtual 106, 3) := by decide +kernel
theorem d_R_waiting_6 : decode b_R_waiting 6 = .ok (.ifCond .eq 12, 3) := by decide +kernel
theorem d_R_waiting_9 : decode b_R_waiting 9 = .ok (.aload_n 0, 1) := by decide +kernel
theorem d_R_waiting_10 : decode b_R_waiting 10 = .ok (.iload_n 1, 1) := by decide +kernel
theorem d_R_waiting_11 : decode b_R_waiting 11 = .ok (.iload_n 2, 1) := by decide +kernel
theorem d_R_waiting_12 : decode b_R_waiting 12 = .ok (.invokevirtual 110, 3) := by decide +kernel
theorem d_R_waiting_15 : decode b_R_waiting 15 = .ok (.goto 4, 3) := by decide +kernel
theorem d_R_waiting_18 : decode b_R_waiting 18 = .ok (.iconst (-1), 1) := by decide +kernel
theorem d_R_waiting_19 : decode b_R_waiting 19 = .ok (.ireturn, 1) := by decide +kernel
theorem d_R_down_0 : decode b_R_down 0 = .ok (.aload_n 0, 1) := by decide +kernel
theorem d_R_down_1 : decode b_R_down 1 = .ok (.iload_n 1, 1) := by decide +kernel
theorem d_R_down_2 : decode b_R_down 2 = .ok (.invokevirtual 87, 3) := by decide +kernel
theorem d_R_down_5 : decode b_R_down 5 = .ok (.ifCond .eq 16, 3) := by decide +kernel
theorem d_R_down_8 : decode b_R_down 8 = .ok (.aload_n 0, 1) := by decide +kernel
theorem d_R_down_9 : decode b_R_down 9 = .ok (.getfield 34, 3) := by decide +kernel
theorem d_R_down_12 : decode b_R_down 12 = .ok (.iload_n 1, 1) := by decide +kernel
theorem d_R_down_13 : decode b_R_down 13 = .ok (.baload, 1) := by decide +kernel
theorem d_R_down_14 : decode b_R_down 14 = .ok (.ifCond .eq 7, 3) := by decide +kernel
theorem d_R_down_17 : decode b_R_down 17 = .ok (.iconst 1, 1) := by decide +kernel
theorem d_R_down_18 : decode b_R_down 18 = .ok (.goto 4, 3) := by decide +kernel
theorem d_R_down_21 : decode b_R_down 21 = .ok (.iconst 0, 1) := by decide +kernel
theorem d_R_down_22 : decode b_R_down 22 = .ok (.ireturn, 1) := by decide +kernel
theorem d_R_instance_0 : decode b_R_instance 0 = .ok (.aload_n 0, 1) := by decide +kernel
theorem d_R_instance_1 : decode b_R_instance 1 = .ok (.iload_n 1, 1) := by decide +kernel
theorem d_R_instance_2 : decode b_R_instance 2 = .ok (.invokevirtual 87, 3) := by decide +kernel
theorem d_R_instance_5 : decode b_R_instance 5 = .ok (.ifCond .eq 12, 3) := by decide +kernel
theorem d_R_instance_8 : decode b_R_instance 8 = .ok (.aload_n 0, 1) := by decide +kernel
theorem d_R_instance_9 : decode b_R_instance 9 = .ok (.getfield 38, 3) := by decide +kernel
theorem d_R_instance_12 : decode b_R_instance 12 = .ok (.iload_n 1, 1) := by decide +kernel
theorem d_R_instance_13 : decode b_R_instance 13 = .ok (.iaload, 1) := by decide +kernel
theorem d_R_instance_14 : decode b_R_instance 14 = .ok (.goto 4, 3) := by decide +kernel
theorem d_R_instance_17 : decode b_R_instance 17 = .ok (.iconst (-1), 1) := by decide +kernel
theorem d_R_instance_18 : decode b_R_instance 18 = .ok (.ireturn, 1) := by decide +kernel
theorem d_R_decision_0 : decode b_R_decision 0 = .ok (.iload_n 1, 1) := by decide +kernel
theorem d_R_decision_1 : decode b_R_decision 1 = .ok (.iconst 1, 1) := by decide +kernel
theorem d_R_decision_2 : decode b_R_decision 2 = .ok (.if_icmp .lt 20, 3) := by decide +kernel
theorem d_R_decision_5 : decode b_R_decision 5 = .ok (.iload_n 1, 1) := by decide +kernel
theorem d_R_decision_6 : decode b_R_decision 6 = .ok (.aload_n 0, 1) := by decide +kernel
theorem d_R_decision_7 : decode b_R_decision 7 = .ok (.getfield 153, 3) := by decide +kernel
theorem d_R_decision_10 : decode b_R_decision 10 = .ok (.if_icmp .gt 12, 3) := by decide +kernel
theorem d_R_decision_13 : decode b_R_decision 13 = .ok (.aload_n 0, 1) := by decide +kernel
theorem d_R_decision_14 : decode b_R_decision 14 = .ok (.getfield 56, 3) := by decide +kernel
theorem d_R_decision_17 : decode b_R_decision 17 = .ok (.iload_n 1, 1) := by decide +kernel
theorem d_R_decision_18 : decode b_R_decision 18 = .ok (.iaload, 1) := by decide +kernel
theorem d_R_decision_19 : decode b_R_decision 19 = .ok (.goto 4, 3) := by decide +kernel
theorem d_R_decision_22 : decode b_R_decision 22 = .ok (.iconst (-1), 1) := by decide +kernel
theorem d_R_decision_23 : decode b_R_decision 23 = .ok (.ireturn, 1) := by decide +kernel
theorem d_R_notes_0 : decode b_R_notes 0 = .ok (.aload_n 0, 1) := by decide +kernel
theorem d_R_notes_1 : decode b_R_notes 1 = .ok (.getfield 116, 3) := by decide +kernel
theorem d_R_notes_4 : decode b_R_notes 4 = .ok (.ireturn, 1) := by decide +kernel
theorem d_R_times_0 : decode b_R_times 0 = .ok (.aload_n 0, 1) := by decide +kernel
theorem d_R_times_1 : decode b_R_times 1 = .ok (.iload_n 1, 1) := by decide +kernel
theorem d_R_times_2 : decode b_R_times 2 = .ok (.invokevirtual 87, 3) := by decide +kernel
theorem d_R_times_5 : decode b_R_times 5 = .ok (.ifCond .eq 12, 3) := by decide +kernel
theorem d_R_times_8 : decode b_R_times 8 = .ok (.iload_n 2, 1) := by decide +kernel
theorem d_R_times_9 : decode b_R_times 9 = .ok (.ifCond .lt 8, 3) := by decide +kernel
theorem d_R_times_12 : decode b_R_times 12 = .ok (.iload_n 2, 1) := by decide +kernel
theorem d_R_times_13 : decode b_R_times 13 = .ok (.iconst 1, 1) := by decide +kernel
theorem d_R_times_14 : decode b_R_times 14 = .ok (.if_icmp .le 7, 3) := by decide +kernel
theorem d_R_times_17 : decode b_R_times 17 = .ok (.iconst (-1), 1) := by decide +kernel
theorem d_R_times_18 : decode b_R_times 18 = .ok (.goto 22, 3) := by decide +kernel
theorem d_R_times_21 : decode b_R_times 21 = .ok (.iload_n 2, 1) := by decide +kernel
theorem d_R_times_22 : decode b_R_times 22 = .ok (.ifCond .ne 12, 3) := by decide +kernel
theorem d_R_times_25 : decode b_R_times 25 = .ok (.aload_n 0, 1) := by decide +kernel
theorem d_R_times_26 : decode b_R_times 26 = .ok (.getfield 77, 3) := by decide +kernel
theorem d_R_times_29 : decode b_R_times 29 = .ok (.iload_n 1, 1) := by decide +kernel
theorem d_R_times_30 : decode b_R_times 30 = .ok (.iaload, 1) := by decide +kernel
theorem d_R_times_31 : decode b_R_times 31 = .ok (.goto 9, 3) := by decide +kernel
theorem d_R_times_34 : decode b_R_times 34 = .ok (.aload_n 0, 1) := by decide +kernel
theorem d_R_times_35 : decode b_R_times 35 = .ok (.getfield 80, 3) := by decide +kernel
theorem d_R_times_38 : decode b_R_times 38 = .ok (.iload_n 1, 1) := by decide +kernel
theorem d_R_times_39 : decode b_R_times 39 = .ok (.iaload, 1) := by decide +kernel
theorem d_R_times_40 : decode b_R_times 40 = .ok (.ireturn, 1) := by decide +kernel
