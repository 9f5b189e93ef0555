theorem d_H_put_0 : decode b_H_put 0 = .ok (.aload_n 0, 1) := by decide +kernel
theorem d_H_put_1 : decode b_H_put 1 = .ok (.getfield 18, 3) := by decide +kernel
theorem d_H_put_4 : decode b_H_put 4 = .ok (.bipush 6, 2) := by decide +kernel
theorem d_H_put_6 : decode b_H_put 6 = .ok (.if_icmp .ge 33, 3) := by decide +kernel
theorem d_H_put_9 : decode b_H_put 9 = .ok (.aload_n 0, 1) := by decide +kernel
theorem d_H_put_10 : decode b_H_put 10 = .ok (.getfield 9, 3) := by decide +kernel
theorem d_H_put_13 : decode b_H_put 13 = .ok (.aload_n 0, 1) := by decide +kernel
theorem d_H_put_14 : decode b_H_put 14 = .ok (.getfield 18, 3) := by decide +kernel
theorem d_H_put_17 : decode b_H_put 17 = .ok (.iload_n 1, 1) := by decide +kernel
theorem d_H_put_18 : decode b_H_put 18 = .ok (.iastore, 1) := by decide +kernel
theorem d_H_put_19 : decode b_H_put 19 = .ok (.aload_n 0, 1) := by decide +kernel
theorem d_H_put_20 : decode b_H_put 20 = .ok (.getfield 15, 3) := by decide +kernel
theorem d_H_put_23 : decode b_H_put 23 = .ok (.aload_n 0, 1) := by decide +kernel
theorem d_H_put_24 : decode b_H_put 24 = .ok (.getfield 18, 3) := by decide +kernel
theorem d_H_put_27 : decode b_H_put 27 = .ok (.iload_n 2, 1) := by decide +kernel
theorem d_H_put_28 : decode b_H_put 28 = .ok (.iastore, 1) := by decide +kernel
theorem d_H_put_29 : decode b_H_put 29 = .ok (.aload_n 0, 1) := by decide +kernel
theorem d_H_put_30 : decode b_H_put 30 = .ok (.dup, 1) := by decide +kernel
theorem d_H_put_31 : decode b_H_put 31 = .ok (.getfield 18, 3) := by decide +kernel
theorem d_H_put_34 : decode b_H_put 34 = .ok (.iconst 1, 1) := by decide +kernel
theorem d_H_put_35 : decode b_H_put 35 = .ok (.iadd, 1) := by decide +kernel
theorem d_H_put_36 : decode b_H_put 36 = .ok (.putfield 18, 3) := by decide +kernel
theorem d_H_put_39 : decode b_H_put 39 = .ok (.return_, 1) := by decide +kernel
theorem d_H_takeFirst_0 : decode b_H_takeFirst 0 = .ok (.iconst 1, 1) := by decide +kernel
theorem d_H_takeFirst_1 : decode b_H_takeFirst 1 = .ok (.istore_n 1, 1) := by decide +kernel
theorem d_H_takeFirst_2 : decode b_H_takeFirst 2 = .ok (.iload_n 1, 1) := by decide +kernel
theorem d_H_takeFirst_3 : decode b_H_takeFirst 3 = .ok (.aload_n 0, 1) := by decide +kernel
theorem d_H_takeFirst_4 : decode b_H_takeFirst 4 = .ok (.getfield 18, 3) := by decide +kernel
theorem d_H_takeFirst_7 : decode b_H_takeFirst 7 = .ok (.if_icmp .ge 37, 3) := by decide +kernel
theorem d_H_takeFirst_10 : decode b_H_takeFirst 10 = .ok (.aload_n 0, 1) := by decide +kernel
theorem d_H_takeFirst_11 : decode b_H_takeFirst 11 = .ok (.getfield 9, 3) := by decide +kernel
theorem d_H_takeFirst_14 : decode b_H_takeFirst 14 = .ok (.iload_n 1, 1) := by decide +kernel
theorem d_H_takeFirst_15 : decode b_H_takeFirst 15 = .ok (.iconst 1, 1) := by decide +kernel
theorem d_H_takeFirst_16 : decode b_H_takeFirst 16 = .ok (.isub, 1) := by decide +kernel
theorem d_H_takeFirst_17 : decode b_H_takeFirst 17 = .ok (.aload_n 0, 1) := by decide +kernel
theorem d_H_takeFirst_18 : decode b_H_takeFirst 18 = .ok (.getfield 9, 3) := by decide +kernel
theorem d_H_takeFirst_21 : decode b_H_takeFirst 21 = .ok (.iload_n 1, 1) := by decide +kernel
theorem d_H_takeFirst_22 : decode b_H_takeFirst 22 = .ok (.iaload, 1) := by decide +kernel
theorem d_H_takeFirst_23 : decode b_H_takeFirst 23 = .ok (.iastore, 1) := by decide +kernel
theorem d_H_takeFirst_24 : decode b_H_takeFirst 24 = .ok (.aload_n 0, 1) := by decide +kernel
theorem d_H_takeFirst_25 : decode b_H_takeFirst 25 = .ok (.getfield 15, 3) := by decide +kernel
theorem d_H_takeFirst_28 : decode b_H_takeFirst 28 = .ok (.iload_n 1, 1) := by decide +kernel
theorem d_H_takeFirst_29 : decode b_H_takeFirst 29 = .ok (.iconst 1, 1) := by decide +kernel
theorem d_H_takeFirst_30 : decode b_H_takeFirst 30 = .ok (.isub, 1) := by decide +kernel
theorem d_H_takeFirst_31 : decode b_H_takeFirst 31 = .ok (.aload_n 0, 1) := by decide +kernel
theorem d_H_takeFirst_32 : decode b_H_takeFirst 32 = .ok (.getfield 15, 3) := by decide +kernel
theorem d_H_takeFirst_35 : decode b_H_takeFirst 35 = .ok (.iload_n 1, 1) := by decide +kernel
theorem d_H_takeFirst_36 : decode b_H_takeFirst 36 = .ok (.iaload, 1) := by decide +kernel
theorem d_H_takeFirst_37 : decode b_H_takeFirst 37 = .ok (.iastore, 1) := by decide +kernel
theorem d_H_takeFirst_38 : decode b_H_takeFirst 38 = .ok (.iinc 1 1, 3) := by decide +kernel
theorem d_H_takeFirst_41 : decode b_H_takeFirst 41 = .ok (.goto (-39), 3) := by decide +kernel
theorem d_H_takeFirst_44 : decode b_H_takeFirst 44 = .ok (.aload_n 0, 1) := by decide +kernel
theorem d_H_takeFirst_45 : decode b_H_takeFirst 45 = .ok (.iconst 0, 1) := by decide +kernel
theorem d_H_takeFirst_46 : decode b_H_takeFirst 46 = .ok (.aload_n 0, 1) := by decide +kernel
theorem d_H_takeFirst_47 : decode b_H_takeFirst 47 = .ok (.getfield 18, 3) := by decide +kernel
theorem d_H_takeFirst_50 : decode b_H_takeFirst 50 = .ok (.iconst 1, 1) := by decide +kernel
theorem d_H_takeFirst_51 : decode b_H_takeFirst 51 = .ok (.isub, 1) := by decide +kernel
theorem d_H_takeFirst_52 : decode b_H_takeFirst 52 = .ok (.invokestatic 22, 3) := by decide +kernel
theorem d_H_takeFirst_55 : decode b_H_takeFirst 55 = .ok (.putfield 18, 3) := by decide +kernel
theorem d_H_takeFirst_58 : decode b_H_takeFirst 58 = .ok (.return_, 1) := by decide +kernel
theorem d_H_takeAbove_0 : decode b_H_takeAbove 0 = .ok (.iconst 0, 1) := by decide +kernel
theorem d_H_takeAbove_1 : decode b_H_takeAbove 1 = .ok (.istore_n 2, 1) := by decide +kernel
theorem d_H_takeAbove_2 : decode b_H_takeAbove 2 = .ok (.iconst 0, 1) := by decide +kernel
theorem d_H_takeAbove_3 : decode b_H_takeAbove 3 = .ok (.istore_n 3, 1) := by decide +kernel
theorem d_H_takeAbove_4 : decode b_H_takeAbove 4 = .ok (.iload_n 3, 1) := by decide +kernel
theorem d_H_takeAbove_5 : decode b_H_takeAbove 5 = .ok (.aload_n 0, 1) := by decide +kernel
theorem d_H_takeAbove_6 : decode b_H_takeAbove 6 = .ok (.getfield 18, 3) := by decide +kernel
theorem d_H_takeAbove_9 : decode b_H_takeAbove 9 = .ok (.if_icmp .ge 46, 3) := by decide +kernel
theorem d_H_takeAbove_12 : decode b_H_takeAbove 12 = .ok (.aload_n 0, 1) := by decide +kernel
theorem d_H_takeAbove_13 : decode b_H_takeAbove 13 = .ok (.getfield 9, 3) := by decide +kernel
theorem d_H_takeAbove_16 : decode b_H_takeAbove 16 = .ok (.iload_n 3, 1) := by decide +kernel
theorem d_H_takeAbove_17 : decode b_H_takeAbove 17 = .ok (.iaload, 1) := by decide +kernel
theorem d_H_takeAbove_18 : decode b_H_takeAbove 18 = .ok (.iload_n 1, 1) := by decide +kernel
theorem d_H_takeAbove_19 : decode b_H_takeAbove 19 = .ok (.if_icmp .gt 30, 3) := by decide +kernel
theorem d_H_takeAbove_22 : decode b_H_takeAbove 22 = .ok (.aload_n 0, 1) := by decide +kernel
theorem d_H_takeAbove_23 : decode b_H_takeAbove 23 = .ok (.getfield 9, 3) := by decide +kernel
theorem d_H_takeAbove_26 : decode b_H_takeAbove 26 = .ok (.iload_n 2, 1) := by decide +kernel
theorem d_H_takeAbove_27 : decode b_H_takeAbove 27 = .ok (.aload_n 0, 1) := by decide +kernel
theorem d_H_takeAbove_28 : decode b_H_takeAbove 28 = .ok (.getfield 9, 3) := by decide +kernel
theorem d_H_takeAbove_31 : decode b_H_takeAbove 31 = .ok (.iload_n 3, 1) := by decide +kernel
theorem d_H_takeAbove_32 : decode b_H_takeAbove 32 = .ok (.iaload, 1) := by decide +kernel
theorem d_H_takeAbove_33 : decode b_H_takeAbove 33 = .ok (.iastore, 1) := by decide +kernel
theorem d_H_takeAbove_34 : decode b_H_takeAbove 34 = .ok (.aload_n 0, 1) := by decide +kernel
theorem d_H_takeAbove_35 : decode b_H_takeAbove 35 = .ok (.getfield 15, 3) := by decide +kernel
theorem d_H_takeAbove_38 : decode b_H_takeAbove 38 = .ok (.iload_n 2, 1) := by decide +kernel
theorem d_H_takeAbove_39 : decode b_H_takeAbove 39 = .ok (.aload_n 0, 1) := by decide +kernel
theorem d_H_takeAbove_40 : decode b_H_takeAbove 40 = .ok (.getfield 15, 3) := by decide +kernel
theorem d_H_takeAbove_43 : decode b_H_takeAbove 43 = .ok (.iload_n 3, 1) := by decide +kernel
theorem d_H_takeAbove_44 : decode b_H_takeAbove 44 = .ok (.iaload, 1) := by decide +kernel
theorem d_H_takeAbove_45 : decode b_H_takeAbove 45 = .ok (.iastore, 1) := by decide +kernel
theorem d_H_takeAbove_46 : decode b_H_takeAbove 46 = .ok (.iinc 2 1, 3) := by decide +kernel
theorem d_H_takeAbove_49 : decode b_H_takeAbove 49 = .ok (.iinc 3 1, 3) := by decide +kernel
theorem d_H_takeAbove_52 : decode b_H_takeAbove 52 = .ok (.goto (-48), 3) := by decide +kernel
theorem d_H_takeAbove_55 : decode b_H_takeAbove 55 = .ok (.aload_n 0, 1) := by decide +kernel
theorem d_H_takeAbove_56 : decode b_H_takeAbove 56 = .ok (.iload_n 2, 1) := by decide +kernel
theorem d_H_takeAbove_57 : decode b_H_takeAbove 57 = .ok (.putfield 18, 3) := by decide +kernel
theorem d_H_takeAbove_60 : decode b_H_takeAbove 60 = .ok (.return_, 1) := by decide +kernel
theorem d_S_copyFrom_0 : decode b_S_copyFrom 0 = .ok (.aload_n 0, 1) := by decide +kernel
theorem d_S_copyFrom_1 : decode b_S_copyFrom 1 = .ok (.aload_n 1, 1) := by decide +kernel
theorem d_S_copyFrom_2 : decode b_S_copyFrom 2 = .ok (.getfield 16, 3) := by decide +kernel
theorem d_S_copyFrom_5 : decode b_S_copyFrom 5 = .ok (.putfield 16, 3) := by decide +kernel
theorem d_S_copyFrom_8 : decode b_S_copyFrom 8 = .ok (.iconst 0, 1) := by decide +kernel
theorem d_S_copyFrom_9 : decode b_S_copyFrom 9 = .ok (.istore_n 2, 1) := by decide +kernel
theorem d_S_copyFrom_10 : decode b_S_copyFrom 10 = .ok (.iload_n 2, 1) := by decide +kernel
theorem d_S_copyFrom_11 : decode b_S_copyFrom 11 = .ok (.aload_n 0, 1) := by decide +kernel
theorem d_S_copyFrom_12 : decode b_S_copyFrom 12 = .ok (.getfield 7, 3) := by decide +kernel
theorem d_S_copyFrom_15 : decode b_S_copyFrom 15 = .ok (.arraylength, 1) := by decide +kernel
theorem d_S_copyFrom_16 : decode b_S_copyFrom 16 = .ok (.if_icmp .ge 33, 3) := by decide +kernel
theorem d_S_copyFrom_19 : decode b_S_copyFrom 19 = .ok (.aload_n 0, 1) := by decide +kernel
theorem d_S_copyFrom_20 : decode b_S_copyFrom 20 = .ok (.getfield 7, 3) := by decide +kernel
theorem d_S_copyFrom_23 : decode b_S_copyFrom 23 = .ok (.iload_n 2, 1) := by decide +kernel
theorem d_S_copyFrom_24 : decode b_S_copyFrom 24 = .ok (.aload_n 1, 1) := by decide +kernel
theorem d_S_copyFrom_25 : decode b_S_copyFrom 25 = .ok (.getfield 7, 3) := by decide +kernel
theorem d_S_copyFrom_28 : decode b_S_copyFrom 28 = .ok (.iload_n 2, 1) := by decide +kernel
theorem d_S_copyFrom_29 : decode b_S_copyFrom 29 = .ok (.iaload, 1) := by decide +kernel
theorem d_S_copyFrom_30 : decode b_S_copyFrom 30 = .ok (.iastore, 1) := by decide +kernel
theorem d_S_copyFrom_31 : decode b_S_copyFrom 31 = .ok (.aload_n 0, 1) := by decide +kernel
theorem d_S_copyFrom_32 : decode b_S_copyFrom 32 = .ok (.getfield 13, 3) := by decide +kernel
theorem d_S_copyFrom_35 : decode b_S_copyFrom 35 = .ok (.iload_n 2, 1) := by decide +kernel
theorem d_S_copyFrom_36 : decode b_S_copyFrom 36 = .ok (.aload_n 1, 1) := by decide +kernel
theorem d_S_copyFrom_37 : decode b_S_copyFrom 37 = .ok (.getfield 13, 3) := by decide +kernel
theorem d_S_copyFrom_40 : decode b_S_copyFrom 40 = .ok (.iload_n 2, 1) := by decide +kernel
theorem d_S_copyFrom_41 : decode b_S_copyFrom 41 = .ok (.iaload, 1) := by decide +kernel
theorem d_S_copyFrom_42 : decode b_S_copyFrom 42 = .ok (.iastore, 1) := by decide +kernel
theorem d_S_copyFrom_43 : decode b_S_copyFrom 43 = .ok (.iinc 2 1, 3) := by decide +kernel
theorem d_S_copyFrom_46 : decode b_S_copyFrom 46 = .ok (.goto (-36), 3) := by decide +kernel
theorem d_S_copyFrom_49 : decode b_S_copyFrom 49 = .ok (.return_, 1) := by decide +kernel
theorem d_M_isInvolved_0 : decode b_M_isInvolved 0 = .ok (.aload_n 0, 1) := by decide +kernel
theorem d_M_isInvolved_1 : decode b_M_isInvolved 1 = .ok (.getfield 30, 3) := by decide +kernel
theorem d_M_isInvolved_4 : decode b_M_isInvolved 4 = .ok (.ifCond .eq 7, 3) := by decide +kernel
theorem d_M_isInvolved_7 : decode b_M_isInvolved 7 = .ok (.iconst 1, 1) := by decide +kernel
theorem d_M_isInvolved_8 : decode b_M_isInvolved 8 = .ok (.goto 4, 3) := by decide +kernel
theorem d_M_isInvolved_11 : decode b_M_isInvolved 11 = .ok (.iconst 0, 1) := by decide +kernel
theorem d_M_isInvolved_12 : decode b_M_isInvolved 12 = .ok (.ireturn, 1) := by decide +kernel
theorem d_M_isInRollback_0 : decode b_M_isInRollback 0 = .ok (.aload_n 0, 1) := by decide +kernel
theorem d_M_isInRollback_1 : decode b_M_isInRollback 1 = .ok (.invokevirtual 34, 3) := by decide +kernel
theorem d_M_isInRollback_4 : decode b_M_isInRollback 4 = .ok (.ifCond .eq 14, 3) := by decide +kernel
theorem d_M_isInRollback_7 : decode b_M_isInRollback 7 = .ok (.aload_n 0, 1) := by decide +kernel
theorem d_M_isInRollback_8 : decode b_M_isInRollback 8 = .ok (.getfield 38, 3) := by decide +kernel
theorem d_M_isInRollback_11 : decode b_M_isInRollback 11 = .ok (.ifCond .eq 7, 3) := by decide +kernel
theorem d_M_isInRollback_14 : decode b_M_isInRollback 14 = .ok (.iconst 1, 1) := by decide +kernel
theorem d_M_isInRollback_15 : decode b_M_isInRollback 15 = .ok (.goto 4, 3) := by decide +kernel
theorem d_M_isInRollback_18 : decode b_M_isInRollback 18 = .ok (.iconst 0, 1) := by decide +kernel
theorem d_M_isInRollback_19 : decode b_M_isInRollback 19 = .ok (.ireturn, 1) := by decide +kernel
theorem d_M_hasNewReceiptFrom_0 : decode b_M_hasNewReceiptFrom 0 = .ok (.aload_n 0, 1) := by decide +kernel
theorem d_M_hasNewReceiptFrom_1 : decode b_M_hasNewReceiptFrom 1 = .ok (.getfield 14, 3) := by decide +kernel
theorem d_M_hasNewReceiptFrom_4 : decode b_M_hasNewReceiptFrom 4 = .ok (.getfield 42, 3) := by decide +kernel
theorem d_M_hasNewReceiptFrom_7 : decode b_M_hasNewReceiptFrom 7 = .ok (.iload_n 1, 1) := by decide +kernel
theorem d_M_hasNewReceiptFrom_8 : decode b_M_hasNewReceiptFrom 8 = .ok (.iaload, 1) := by decide +kernel
theorem d_M_hasNewReceiptFrom_9 : decode b_M_hasNewReceiptFrom 9 = .ok (.aload_n 0, 1) := by decide +kernel
theorem d_M_hasNewReceiptFrom_10 : decode b_M_hasNewReceiptFrom 10 = .ok (.getfield 20, 3) := by decide +kernel
theorem d_M_hasNewReceiptFrom_13 : decode b_M_hasNewReceiptFrom 13 = .ok (.getfield 42, 3) := by decide +kernel
theorem d_M_hasNewReceiptFrom_16 : decode b_M_hasNewReceiptFrom 16 = .ok (.iload_n 1, 1) := by decide +kernel
theorem d_M_hasNewReceiptFrom_17 : decode b_M_hasNewReceiptFrom 17 = .ok (.iaload, 1) := by decide +kernel
theorem d_M_hasNewReceiptFrom_18 : decode b_M_hasNewReceiptFrom 18 = .ok (.if_icmp .le 7, 3) := by decide +kernel
theorem d_M_hasNewReceiptFrom_21 : decode b_M_hasNewReceiptFrom 21 = .ok (.iconst 1, 1) := by decide +kernel
theorem d_M_hasNewReceiptFrom_22 : decode b_M_hasNewReceiptFrom 22 = .ok (.goto 4, 3) := by decide +kernel
theorem d_M_hasNewReceiptFrom_25 : decode b_M_hasNewReceiptFrom 25 = .ok (.iconst 0, 1) := by decide +kernel
theorem d_M_hasNewReceiptFrom_26 : decode b_M_hasNewReceiptFrom 26 = .ok (.ireturn, 1) := by decide +kernel
theorem d_M_isConcerned_0 : decode b_M_isConcerned 0 = .ok (.iload_n 1, 1) := by decide +kernel
theorem d_M_isConcerned_1 : decode b_M_isConcerned 1 = .ok (.ifCond .eq 24, 3) := by decide +kernel
theorem d_M_isConcerned_4 : decode b_M_isConcerned 4 = .ok (.aload_n 0, 1) := by decide +kernel
theorem d_M_isConcerned_5 : decode b_M_isConcerned 5 = .ok (.getfield 14, 3) := by decide +kernel
theorem d_M_isConcerned_8 : decode b_M_isConcerned 8 = .ok (.getfield 42, 3) := by decide +kernel
theorem d_M_isConcerned_11 : decode b_M_isConcerned 11 = .ok (.iload_n 2, 1) := by decide +kernel
theorem d_M_isConcerned_12 : decode b_M_isConcerned 12 = .ok (.iaload, 1) := by decide +kernel
theorem d_M_isConcerned_13 : decode b_M_isConcerned 13 = .ok (.iload_n 3, 1) := by decide +kernel
theorem d_M_isConcerned_14 : decode b_M_isConcerned 14 = .ok (.if_icmp .le 7, 3) := by decide +kernel
theorem d_M_isConcerned_17 : decode b_M_isConcerned 17 = .ok (.iconst 1, 1) := by decide +kernel
theorem d_M_isConcerned_18 : decode b_M_isConcerned 18 = .ok (.goto 25, 3) := by decide +kernel
theorem d_M_isConcerned_21 : decode b_M_isConcerned 21 = .ok (.iconst 0, 1) := by decide +kernel
theorem d_M_isConcerned_22 : decode b_M_isConcerned 22 = .ok (.goto 21, 3) := by decide +kernel
theorem d_M_isConcerned_25 : decode b_M_isConcerned 25 = .ok (.iload_n 3, 1) := by decide +kernel
theorem d_M_isConcerned_26 : decode b_M_isConcerned 26 = .ok (.aload_n 0, 1) := by decide +kernel
theorem d_M_isConcerned_27 : decode b_M_isConcerned 27 = .ok (.getfield 20, 3) := by decide +kernel
theorem d_M_isConcerned_30 : decode b_M_isConcerned 30 = .ok (.getfield 46, 3) := by decide +kernel
theorem d_M_isConcerned_33 : decode b_M_isConcerned 33 = .ok (.iload_n 2, 1) := by decide +kernel
theorem d_M_isConcerned_34 : decode b_M_isConcerned 34 = .ok (.iaload, 1) := by decide +kernel
theorem d_M_isConcerned_35 : decode b_M_isConcerned 35 = .ok (.if_icmp .le 7, 3) := by decide +kernel
theorem d_M_isConcerned_38 : decode b_M_isConcerned 38 = .ok (.iconst 1, 1) := by decide +kernel
theorem d_M_isConcerned_39 : decode b_M_isConcerned 39 = .ok (.goto 4, 3) := by decide +kernel
theorem d_M_isConcerned_42 : decode b_M_isConcerned 42 = .ok (.iconst 0, 1) := by decide +kernel
theorem d_M_isConcerned_43 : decode b_M_isConcerned 43 = .ok (.ireturn, 1) := by decide +kernel
theorem d_M_enter_0 : decode b_M_enter 0 = .ok (.aload_n 0, 1) := by decide +kernel
theorem d_M_enter_1 : decode b_M_enter 1 = .ok (.iload_n 1, 1) := by decide +kernel
theorem d_M_enter_2 : decode b_M_enter 2 = .ok (.putfield 30, 3) := by decide +kernel
theorem d_M_enter_5 : decode b_M_enter 5 = .ok (.aload_n 0, 1) := by decide +kernel
theorem d_M_enter_6 : decode b_M_enter 6 = .ok (.iload_n 2, 1) := by decide +kernel
theorem d_M_enter_7 : decode b_M_enter 7 = .ok (.putfield 38, 3) := by decide +kernel
theorem d_M_enter_10 : decode b_M_enter 10 = .ok (.aload_n 0, 1) := by decide +kernel
theorem d_M_enter_11 : decode b_M_enter 11 = .ok (.iload_n 3, 1) := by decide +kernel
theorem d_M_enter_12 : decode b_M_enter 12 = .ok (.putfield 49, 3) := by decide +kernel
theorem d_M_enter_15 : decode b_M_enter 15 = .ok (.aload_n 0, 1) := by decide +kernel
theorem d_M_enter_16 : decode b_M_enter 16 = .ok (.iconst 0, 1) := by decide +kernel
theorem d_M_enter_17 : decode b_M_enter 17 = .ok (.putfield 52, 3) := by decide +kernel
theorem d_M_enter_20 : decode b_M_enter 20 = .ok (.aload_n 0, 1) := by decide +kernel
theorem d_M_enter_21 : decode b_M_enter 21 = .ok (.iconst 1, 1) := by decide +kernel
theorem d_M_enter_22 : decode b_M_enter 22 = .ok (.putfield 55, 3) := by decide +kernel
theorem d_M_enter_25 : decode b_M_enter 25 = .ok (.return_, 1) := by decide +kernel
theorem d_M_makePermanent_0 : decode b_M_makePermanent 0 = .ok (.aload_n 0, 1) := by decide +kernel
theorem d_M_makePermanent_1 : decode b_M_makePermanent 1 = .ok (.getfield 20, 3) := by decide +kernel
theorem d_M_makePermanent_4 : decode b_M_makePermanent 4 = .ok (.aload_n 0, 1) := by decide +kernel
theorem d_M_makePermanent_5 : decode b_M_makePermanent 5 = .ok (.getfield 23, 3) := by decide +kernel
theorem d_M_makePermanent_8 : decode b_M_makePermanent 8 = .ok (.invokevirtual 58, 3) := by decide +kernel
theorem d_M_makePermanent_11 : decode b_M_makePermanent 11 = .ok (.aload_n 0, 1) := by decide +kernel
theorem d_M_makePermanent_12 : decode b_M_makePermanent 12 = .ok (.dup, 1) := by decide +kernel
theorem d_M_makePermanent_13 : decode b_M_makePermanent 13 = .ok (.getfield 62, 3) := by decide +kernel
theorem d_M_makePermanent_16 : decode b_M_makePermanent 16 = .ok (.iconst 1, 1) := by decide +kernel
theorem d_M_makePermanent_17 : decode b_M_makePermanent 17 = .ok (.iadd, 1) := by decide +kernel
theorem d_M_makePermanent_18 : decode b_M_makePermanent 18 = .ok (.putfield 62, 3) := by decide +kernel
theorem d_M_makePermanent_21 : decode b_M_makePermanent 21 = .ok (.return_, 1) := by decide +kernel
theorem d_L_wrapped_0 : decode b_L_wrapped 0 = .ok (.iload_n 1, 1) := by decide +kernel
theorem d_L_wrapped_1 : decode b_L_wrapped 1 = .ok (.aload_n 0, 1) := by decide +kernel
theorem d_L_wrapped_2 : decode b_L_wrapped 2 = .ok (.getfield 9, 3) := by decide +kernel
theorem d_L_wrapped_5 : decode b_L_wrapped 5 = .ok (.arraylength, 1) := by decide +kernel
theorem d_L_wrapped_6 : decode b_L_wrapped 6 = .ok (.if_icmp .ge 7, 3) := by decide +kernel
theorem d_L_wrapped_9 : decode b_L_wrapped 9 = .ok (.iload_n 1, 1) := by decide +kernel
theorem d_L_wrapped_10 : decode b_L_wrapped 10 = .ok (.goto 10, 3) := by decide +kernel
theorem d_L_wrapped_13 : decode b_L_wrapped 13 = .ok (.iload_n 1, 1) := by decide +kernel
theorem d_L_wrapped_14 : decode b_L_wrapped 14 = .ok (.aload_n 0, 1) := by decide +kernel
theorem d_L_wrapped_15 : decode b_L_wrapped 15 = .ok (.getfield 9, 3) := by decide +kernel
theorem d_L_wrapped_18 : decode b_L_wrapped 18 = .ok (.arraylength, 1) := by decide +kernel
theorem d_L_wrapped_19 : decode b_L_wrapped 19 = .ok (.isub, 1) := by decide +kernel
theorem d_L_wrapped_20 : decode b_L_wrapped 20 = .ok (.ireturn, 1) := by decide +kernel
theorem d_L_add_0 : decode b_L_add 0 = .ok (.aload_n 0, 1) := by decide +kernel
theorem d_L_add_1 : decode b_L_add 1 = .ok (.getfield 16, 3) := by decide +kernel
theorem d_L_add_4 : decode b_L_add 4 = .ok (.aload_n 0, 1) := by decide +kernel
theorem d_L_add_5 : decode b_L_add 5 = .ok (.getfield 9, 3) := by decide +kernel
theorem d_L_add_8 : decode b_L_add 8 = .ok (.arraylength, 1) := by decide +kernel
theorem d_L_add_9 : decode b_L_add 9 = .ok (.if_icmp .lt 4, 3) := by decide +kernel
theorem d_L_add_12 : decode b_L_add 12 = .ok (.return_, 1) := by decide +kernel
theorem d_L_add_13 : decode b_L_add 13 = .ok (.aload_n 0, 1) := by decide +kernel
theorem d_L_add_14 : decode b_L_add 14 = .ok (.getfield 9, 3) := by decide +kernel
theorem d_L_add_17 : decode b_L_add 17 = .ok (.aload_n 0, 1) := by decide +kernel
theorem d_L_add_18 : decode b_L_add 18 = .ok (.aload_n 0, 1) := by decide +kernel
theorem d_L_add_19 : decode b_L_add 19 = .ok (.getfield 20, 3) := by decide +kernel
theorem d_L_add_22 : decode b_L_add 22 = .ok (.aload_n 0, 1) := by decide +kernel
theorem d_L_add_23 : decode b_L_add 23 = .ok (.getfield 16, 3) := by decide +kernel
theorem d_L_add_26 : decode b_L_add 26 = .ok (.iadd, 1) := by decide +kernel
theorem d_L_add_27 : decode b_L_add 27 = .ok (.invokevirtual 23, 3) := by decide +kernel
theorem d_L_add_30 : decode b_L_add 30 = .ok (.aaload, 1) := by decide +kernel
theorem d_L_add_31 : decode b_L_add 31 = .ok (.astore 6, 2) := by decide +kernel
theorem d_L_add_33 : decode b_L_add 33 = .ok (.aload 6, 2) := by decide +kernel
theorem d_L_add_35 : decode b_L_add 35 = .ok (.iload_n 1, 1) := by decide +kernel
theorem d_L_add_36 : decode b_L_add 36 = .ok (.putfield 27, 3) := by decide +kernel
theorem d_L_add_39 : decode b_L_add 39 = .ok (.aload 6, 2) := by decide +kernel
theorem d_L_add_41 : decode b_L_add 41 = .ok (.iload_n 2, 1) := by decide +kernel
theorem d_L_add_42 : decode b_L_add 42 = .ok (.putfield 30, 3) := by decide +kernel
theorem d_L_add_45 : decode b_L_add 45 = .ok (.aload 6, 2) := by decide +kernel
theorem d_L_add_47 : decode b_L_add 47 = .ok (.iload_n 3, 1) := by decide +kernel
theorem d_L_add_48 : decode b_L_add 48 = .ok (.putfield 33, 3) := by decide +kernel
theorem d_L_add_51 : decode b_L_add 51 = .ok (.aload 6, 2) := by decide +kernel
theorem d_L_add_53 : decode b_L_add 53 = .ok (.iload 4, 2) := by decide +kernel
theorem d_L_add_55 : decode b_L_add 55 = .ok (.putfield 36, 3) := by decide +kernel
theorem d_L_add_58 : decode b_L_add 58 = .ok (.aload 6, 2) := by decide +kernel
theorem d_L_add_60 : decode b_L_add 60 = .ok (.iload 5, 2) := by decide +kernel
theorem d_L_add_62 : decode b_L_add 62 = .ok (.putfield 39, 3) := by decide +kernel
theorem d_L_add_65 : decode b_L_add 65 = .ok (.aload_n 0, 1) := by decide +kernel
theorem d_L_add_66 : decode b_L_add 66 = .ok (.dup, 1) := by decide +kernel
theorem d_L_add_67 : decode b_L_add 67 = .ok (.getfield 16, 3) := by decide +kernel
theorem d_L_add_70 : decode b_L_add 70 = .ok (.iconst 1, 1) := by decide +kernel
theorem d_L_add_71 : decode b_L_add 71 = .ok (.iadd, 1) := by decide +kernel
theorem d_L_add_72 : decode b_L_add 72 = .ok (.putfield 16, 3) := by decide +kernel
theorem d_L_add_75 : decode b_L_add 75 = .ok (.return_, 1) := by decide +kernel
theorem d_L_first_0 : decode b_L_first 0 = .ok (.aload_n 0, 1) := by decide +kernel
theorem d_L_first_1 : decode b_L_first 1 = .ok (.getfield 9, 3) := by decide +kernel
theorem d_L_first_4 : decode b_L_first 4 = .ok (.aload_n 0, 1) := by decide +kernel
theorem d_L_first_5 : decode b_L_first 5 = .ok (.getfield 20, 3) := by decide +kernel
theorem d_L_first_8 : decode b_L_first 8 = .ok (.aaload, 1) := by decide +kernel
theorem d_L_first_9 : decode b_L_first 9 = .ok (.areturn, 1) := by decide +kernel
theorem d_L_takeFirst_0 : decode b_L_takeFirst 0 = .ok (.aload_n 0, 1) := by decide +kernel
theorem d_L_takeFirst_1 : decode b_L_takeFirst 1 = .ok (.getfield 16, 3) := by decide +kernel
theorem d_L_takeFirst_4 : decode b_L_takeFirst 4 = .ok (.ifCond .le 27, 3) := by decide +kernel
theorem d_L_takeFirst_7 : decode b_L_takeFirst 7 = .ok (.aload_n 0, 1) := by decide +kernel
theorem d_L_takeFirst_8 : decode b_L_takeFirst 8 = .ok (.aload_n 0, 1) := by decide +kernel
theorem d_L_takeFirst_9 : decode b_L_takeFirst 9 = .ok (.aload_n 0, 1) := by decide +kernel
theorem d_L_takeFirst_10 : decode b_L_takeFirst 10 = .ok (.getfield 20, 3) := by decide +kernel
theorem d_L_takeFirst_13 : decode b_L_takeFirst 13 = .ok (.iconst 1, 1) := by decide +kernel
theorem d_L_takeFirst_14 : decode b_L_takeFirst 14 = .ok (.iadd, 1) := by decide +kernel
theorem d_L_takeFirst_15 : decode b_L_takeFirst 15 = .ok (.invokevirtual 23, 3) := by decide +kernel
theorem d_L_takeFirst_18 : decode b_L_takeFirst 18 = .ok (.putfield 20, 3) := by decide +kernel
theorem d_L_takeFirst_21 : decode b_L_takeFirst 21 = .ok (.aload_n 0, 1) := by decide +kernel
theorem d_L_takeFirst_22 : decode b_L_takeFirst 22 = .ok (.dup, 1) := by decide +kernel
theorem d_L_takeFirst_23 : decode b_L_takeFirst 23 = .ok (.getfield 16, 3) := by decide +kernel
theorem d_L_takeFirst_26 : decode b_L_takeFirst 26 = .ok (.iconst 1, 1) := by decide +kernel
theorem d_L_takeFirst_27 : decode b_L_takeFirst 27 = .ok (.isub, 1) := by decide +kernel
theorem d_L_takeFirst_28 : decode b_L_takeFirst 28 = .ok (.putfield 16, 3) := by decide +kernel
theorem d_L_takeFirst_31 : decode b_L_takeFirst 31 = .ok (.return_, 1) := by decide +kernel
theorem d_X_isProcess_0 : decode b_X_isProcess 0 = .ok (.iload_n 1, 1) := by decide +kernel
theorem d_X_isProcess_1 : decode b_X_isProcess 1 = .ok (.ifCond .lt 15, 3) := by decide +kernel
theorem d_X_isProcess_4 : decode b_X_isProcess 4 = .ok (.iload_n 1, 1) := by decide +kernel
theorem d_X_isProcess_5 : decode b_X_isProcess 5 = .ok (.aload_n 0, 1) := by decide +kernel
theorem d_X_isProcess_6 : decode b_X_isProcess 6 = .ok (.getfield 18, 3) := by decide +kernel
theorem d_X_isProcess_9 : decode b_X_isProcess 9 = .ok (.if_icmp .ge 7, 3) := by decide +kernel
theorem d_X_isProcess_12 : decode b_X_isProcess 12 = .ok (.iconst 1, 1) := by decide +kernel
theorem d_X_isProcess_13 : decode b_X_isProcess 13 = .ok (.goto 4, 3) := by decide +kernel
theorem d_X_isProcess_16 : decode b_X_isProcess 16 = .ok (.iconst 0, 1) := by decide +kernel
theorem d_X_isProcess_17 : decode b_X_isProcess 17 = .ok (.ireturn, 1) := by decide +kernel
theorem d_X_work_0 : decode b_X_work 0 = .ok (.aload_n 0, 1) := by decide +kernel
theorem d_X_work_1 : decode b_X_work 1 = .ok (.iload_n 1, 1) := by decide +kernel
theorem d_X_work_2 : decode b_X_work 2 = .ok (.invokevirtual 53, 3) := by decide +kernel
theorem d_X_work_5 : decode b_X_work 5 = .ok (.ifCond .ne 5, 3) := by decide +kernel
theorem d_X_work_8 : decode b_X_work 8 = .ok (.iconst (-1), 1) := by decide +kernel
theorem d_X_work_9 : decode b_X_work 9 = .ok (.ireturn, 1) := by decide +kernel
theorem d_X_work_10 : decode b_X_work 10 = .ok (.aload_n 0, 1) := by decide +kernel
theorem d_X_work_11 : decode b_X_work 11 = .ok (.getfield 24, 3) := by decide +kernel
theorem d_X_work_14 : decode b_X_work 14 = .ok (.iload_n 1, 1) := by decide +kernel
theorem d_X_work_15 : decode b_X_work 15 = .ok (.aaload, 1) := by decide +kernel
theorem d_X_work_16 : decode b_X_work 16 = .ok (.astore_n 3, 1) := by decide +kernel
theorem d_X_work_17 : decode b_X_work 17 = .ok (.aload_n 3, 1) := by decide +kernel
theorem d_X_work_18 : decode b_X_work 18 = .ok (.getfield 57, 3) := by decide +kernel
theorem d_X_work_21 : decode b_X_work 21 = .ok (.ifCond .eq 6, 3) := by decide +kernel
theorem d_X_work_24 : decode b_X_work 24 = .ok (.bipush (-2), 2) := by decide +kernel
theorem d_X_work_26 : decode b_X_work 26 = .ok (.ireturn, 1) := by decide +kernel
theorem d_X_work_27 : decode b_X_work 27 = .ok (.aload_n 3, 1) := by decide +kernel
theorem d_X_work_28 : decode b_X_work 28 = .ok (.invokevirtual 61, 3) := by decide +kernel
theorem d_X_work_31 : decode b_X_work 31 = .ok (.ifCond .eq 6, 3) := by decide +kernel
theorem d_X_work_34 : decode b_X_work 34 = .ok (.bipush (-3), 2) := by decide +kernel
theorem d_X_work_36 : decode b_X_work 36 = .ok (.ireturn, 1) := by decide +kernel
theorem d_X_work_37 : decode b_X_work 37 = .ok (.aload_n 3, 1) := by decide +kernel
theorem d_X_work_38 : decode b_X_work 38 = .ok (.getfield 65, 3) := by decide +kernel
theorem d_X_work_41 : decode b_X_work 41 = .ok (.bipush 31, 2) := by decide +kernel
theorem d_X_work_43 : decode b_X_work 43 = .ok (.aload_n 3, 1) := by decide +kernel
theorem d_X_work_44 : decode b_X_work 44 = .ok (.getfield 65, 3) := by decide +kernel
theorem d_X_work_47 : decode b_X_work 47 = .ok (.getfield 69, 3) := by decide +kernel
theorem d_X_work_50 : decode b_X_work 50 = .ok (.imul, 1) := by decide +kernel
theorem d_X_work_51 : decode b_X_work 51 = .ok (.iload_n 2, 1) := by decide +kernel
theorem d_X_work_52 : decode b_X_work 52 = .ok (.iadd, 1) := by decide +kernel
theorem d_X_work_53 : decode b_X_work 53 = .ok (.putfield 69, 3) := by decide +kernel
theorem d_X_work_56 : decode b_X_work 56 = .ok (.iconst 0, 1) := by decide +kernel
theorem d_X_work_57 : decode b_X_work 57 = .ok (.ireturn, 1) := by decide +kernel
theorem d_X_isChannel_0 : decode b_X_isChannel 0 = .ok (.aload_n 0, 1) := by decide +kernel
theorem d_X_isChannel_1 : decode b_X_isChannel 1 = .ok (.iload_n 1, 1) := by decide +kernel
theorem d_X_isChannel_2 : decode b_X_isChannel 2 = .ok (.invokevirtual 53, 3) := by decide +kernel
theorem d_X_isChannel_5 : decode b_X_isChannel 5 = .ok (.ifCond .eq 20, 3) := by decide +kernel
theorem d_X_isChannel_8 : decode b_X_isChannel 8 = .ok (.aload_n 0, 1) := by decide +kernel
theorem d_X_isChannel_9 : decode b_X_isChannel 9 = .ok (.iload_n 2, 1) := by decide +kernel
theorem d_X_isChannel_10 : decode b_X_isChannel 10 = .ok (.invokevirtual 53, 3) := by decide +kernel
theorem d_X_isChannel_13 : decode b_X_isChannel 13 = .ok (.ifCond .eq 12, 3) := by decide +kernel
theorem d_X_isChannel_16 : decode b_X_isChannel 16 = .ok (.iload_n 1, 1) := by decide +kernel
theorem d_X_isChannel_17 : decode b_X_isChannel 17 = .ok (.iload_n 2, 1) := by decide +kernel
theorem d_X_isChannel_18 : decode b_X_isChannel 18 = .ok (.if_icmp .eq 7, 3) := by decide +kernel
theorem d_X_isChannel_21 : decode b_X_isChannel 21 = .ok (.iconst 1, 1) := by decide +kernel
theorem d_X_isChannel_22 : decode b_X_isChannel 22 = .ok (.goto 4, 3) := by decide +kernel
theorem d_X_isChannel_25 : decode b_X_isChannel 25 = .ok (.iconst 0, 1) := by decide +kernel
theorem d_X_isChannel_26 : decode b_X_isChannel 26 = .ok (.ireturn, 1) := by decide +kernel
theorem d_X_channelOf_0 : decode b_X_channelOf 0 = .ok (.aload_n 0, 1) := by decide +kernel
theorem d_X_channelOf_1 : decode b_X_channelOf 1 = .ok (.getfield 33, 3) := by decide +kernel
theorem d_X_channelOf_4 : decode b_X_channelOf 4 = .ok (.iload_n 1, 1) := by decide +kernel
theorem d_X_channelOf_5 : decode b_X_channelOf 5 = .ok (.aload_n 0, 1) := by decide +kernel
theorem d_X_channelOf_6 : decode b_X_channelOf 6 = .ok (.getfield 18, 3) := by decide +kernel
theorem d_X_channelOf_9 : decode b_X_channelOf 9 = .ok (.imul, 1) := by decide +kernel
theorem d_X_channelOf_10 : decode b_X_channelOf 10 = .ok (.iload_n 2, 1) := by decide +kernel
theorem d_X_channelOf_11 : decode b_X_channelOf 11 = .ok (.iadd, 1) := by decide +kernel
theorem d_X_channelOf_12 : decode b_X_channelOf 12 = .ok (.aaload, 1) := by decide +kernel
theorem d_X_channelOf_13 : decode b_X_channelOf 13 = .ok (.areturn, 1) := by decide +kernel
theorem d_X_send_0 : decode b_X_send 0 = .ok (.aload_n 0, 1) := by decide +kernel
theorem d_X_send_1 : decode b_X_send 1 = .ok (.iload_n 1, 1) := by decide +kernel
theorem d_X_send_2 : decode b_X_send 2 = .ok (.iload_n 2, 1) := by decide +kernel
theorem d_X_send_3 : decode b_X_send 3 = .ok (.invokevirtual 74, 3) := by decide +kernel
theorem d_X_send_6 : decode b_X_send 6 = .ok (.ifCond .ne 5, 3) := by decide +kernel
theorem d_X_send_9 : decode b_X_send 9 = .ok (.iconst (-1), 1) := by decide +kernel
theorem d_X_send_10 : decode b_X_send 10 = .ok (.ireturn, 1) := by decide +kernel
theorem d_X_send_11 : decode b_X_send 11 = .ok (.aload_n 0, 1) := by decide +kernel
theorem d_X_send_12 : decode b_X_send 12 = .ok (.getfield 24, 3) := by decide +kernel
theorem d_X_send_15 : decode b_X_send 15 = .ok (.iload_n 1, 1) := by decide +kernel
theorem d_X_send_16 : decode b_X_send 16 = .ok (.aaload, 1) := by decide +kernel
theorem d_X_send_17 : decode b_X_send 17 = .ok (.astore_n 3, 1) := by decide +kernel
theorem d_X_send_18 : decode b_X_send 18 = .ok (.aload_n 3, 1) := by decide +kernel
theorem d_X_send_19 : decode b_X_send 19 = .ok (.getfield 57, 3) := by decide +kernel
theorem d_X_send_22 : decode b_X_send 22 = .ok (.ifCond .eq 6, 3) := by decide +kernel
theorem d_X_send_25 : decode b_X_send 25 = .ok (.bipush (-2), 2) := by decide +kernel
theorem d_X_send_27 : decode b_X_send 27 = .ok (.ireturn, 1) := by decide +kernel
theorem d_X_send_28 : decode b_X_send 28 = .ok (.aload_n 3, 1) := by decide +kernel
theorem d_X_send_29 : decode b_X_send 29 = .ok (.invokevirtual 78, 3) := by decide +kernel
theorem d_X_send_32 : decode b_X_send 32 = .ok (.ifCond .eq 6, 3) := by decide +kernel
theorem d_X_send_35 : decode b_X_send 35 = .ok (.bipush (-3), 2) := by decide +kernel
theorem d_X_send_37 : decode b_X_send 37 = .ok (.ireturn, 1) := by decide +kernel
theorem d_X_send_38 : decode b_X_send 38 = .ok (.aload_n 0, 1) := by decide +kernel
theorem d_X_send_39 : decode b_X_send 39 = .ok (.iload_n 1, 1) := by decide +kernel
theorem d_X_send_40 : decode b_X_send 40 = .ok (.iload_n 2, 1) := by decide +kernel
theorem d_X_send_41 : decode b_X_send 41 = .ok (.invokevirtual 81, 3) := by decide +kernel
theorem d_X_send_44 : decode b_X_send 44 = .ok (.astore 4, 2) := by decide +kernel
theorem d_X_send_46 : decode b_X_send 46 = .ok (.aload 4, 2) := by decide +kernel
theorem d_X_send_48 : decode b_X_send 48 = .ok (.getfield 85, 3) := by decide +kernel
theorem d_X_send_51 : decode b_X_send 51 = .ok (.bipush 6, 2) := by decide +kernel
theorem d_X_send_53 : decode b_X_send 53 = .ok (.if_icmp .lt 6, 3) := by decide +kernel
theorem d_X_send_56 : decode b_X_send 56 = .ok (.bipush (-4), 2) := by decide +kernel
theorem d_X_send_58 : decode b_X_send 58 = .ok (.ireturn, 1) := by decide +kernel
theorem d_X_send_59 : decode b_X_send 59 = .ok (.aload_n 3, 1) := by decide +kernel
theorem d_X_send_60 : decode b_X_send 60 = .ok (.getfield 65, 3) := by decide +kernel
theorem d_X_send_63 : decode b_X_send 63 = .ok (.getfield 88, 3) := by decide +kernel
theorem d_X_send_66 : decode b_X_send 66 = .ok (.iload_n 2, 1) := by decide +kernel
theorem d_X_send_67 : decode b_X_send 67 = .ok (.dup2, 1) := by decide +kernel
theorem d_X_send_68 : decode b_X_send 68 = .ok (.iaload, 1) := by decide +kernel
theorem d_X_send_69 : decode b_X_send 69 = .ok (.iconst 1, 1) := by decide +kernel
theorem d_X_send_70 : decode b_X_send 70 = .ok (.iadd, 1) := by decide +kernel
theorem d_X_send_71 : decode b_X_send 71 = .ok (.iastore, 1) := by decide +kernel
theorem d_X_send_72 : decode b_X_send 72 = .ok (.aload 4, 2) := by decide +kernel
theorem d_X_send_74 : decode b_X_send 74 = .ok (.aload_n 3, 1) := by decide +kernel
theorem d_X_send_75 : decode b_X_send 75 = .ok (.getfield 65, 3) := by decide +kernel
theorem d_X_send_78 : decode b_X_send 78 = .ok (.getfield 88, 3) := by decide +kernel
theorem d_X_send_81 : decode b_X_send 81 = .ok (.iload_n 2, 1) := by decide +kernel
theorem d_X_send_82 : decode b_X_send 82 = .ok (.iaload, 1) := by decide +kernel
theorem d_X_send_83 : decode b_X_send 83 = .ok (.aload_n 3, 1) := by decide +kernel
theorem d_X_send_84 : decode b_X_send 84 = .ok (.getfield 65, 3) := by decide +kernel
theorem d_X_send_87 : decode b_X_send 87 = .ok (.getfield 69, 3) := by decide +kernel
theorem d_X_send_90 : decode b_X_send 90 = .ok (.invokevirtual 91, 3) := by decide +kernel
theorem d_X_send_93 : decode b_X_send 93 = .ok (.aload_n 3, 1) := by decide +kernel
theorem d_X_send_94 : decode b_X_send 94 = .ok (.getfield 65, 3) := by decide +kernel
theorem d_X_send_97 : decode b_X_send 97 = .ok (.getfield 88, 3) := by decide +kernel
theorem d_X_send_100 : decode b_X_send 100 = .ok (.iload_n 2, 1) := by decide +kernel
theorem d_X_send_101 : decode b_X_send 101 = .ok (.iaload, 1) := by decide +kernel
theorem d_X_send_102 : decode b_X_send 102 = .ok (.ireturn, 1) := by decide +kernel
theorem d_X_receive_0 : decode b_X_receive 0 = .ok (.aload_n 0, 1) := by decide +kernel
theorem d_X_receive_1 : decode b_X_receive 1 = .ok (.iload_n 1, 1) := by decide +kernel
theorem d_X_receive_2 : decode b_X_receive 2 = .ok (.iload_n 2, 1) := by decide +kernel
theorem d_X_receive_3 : decode b_X_receive 3 = .ok (.invokevirtual 74, 3) := by decide +kernel
theorem d_X_receive_6 : decode b_X_receive 6 = .ok (.ifCond .ne 5, 3) := by decide +kernel
theorem d_X_receive_9 : decode b_X_receive 9 = .ok (.iconst (-1), 1) := by decide +kernel
theorem d_X_receive_10 : decode b_X_receive 10 = .ok (.ireturn, 1) := by decide +kernel
theorem d_X_receive_11 : decode b_X_receive 11 = .ok (.aload_n 0, 1) := by decide +kernel
theorem d_X_receive_12 : decode b_X_receive 12 = .ok (.getfield 24, 3) := by decide +kernel
theorem d_X_receive_15 : decode b_X_receive 15 = .ok (.iload_n 1, 1) := by decide +kernel
theorem d_X_receive_16 : decode b_X_receive 16 = .ok (.aaload, 1) := by decide +kernel
theorem d_X_receive_17 : decode b_X_receive 17 = .ok (.astore_n 3, 1) := by decide +kernel
theorem d_X_receive_18 : decode b_X_receive 18 = .ok (.aload_n 0, 1) := by decide +kernel
theorem d_X_receive_19 : decode b_X_receive 19 = .ok (.getfield 24, 3) := by decide +kernel
theorem d_X_receive_22 : decode b_X_receive 22 = .ok (.iload_n 2, 1) := by decide +kernel
theorem d_X_receive_23 : decode b_X_receive 23 = .ok (.aaload, 1) := by decide +kernel
theorem d_X_receive_24 : decode b_X_receive 24 = .ok (.astore 4, 2) := by decide +kernel
theorem d_X_receive_26 : decode b_X_receive 26 = .ok (.aload 4, 2) := by decide +kernel
theorem d_X_receive_28 : decode b_X_receive 28 = .ok (.getfield 57, 3) := by decide +kernel
theorem d_X_receive_31 : decode b_X_receive 31 = .ok (.ifCond .eq 6, 3) := by decide +kernel
theorem d_X_receive_34 : decode b_X_receive 34 = .ok (.bipush (-2), 2) := by decide +kernel
theorem d_X_receive_36 : decode b_X_receive 36 = .ok (.ireturn, 1) := by decide +kernel
theorem d_X_receive_37 : decode b_X_receive 37 = .ok (.aload 4, 2) := by decide +kernel
theorem d_X_receive_39 : decode b_X_receive 39 = .ok (.invokevirtual 61, 3) := by decide +kernel
theorem d_X_receive_42 : decode b_X_receive 42 = .ok (.ifCond .ne 17, 3) := by decide +kernel
theorem d_X_receive_45 : decode b_X_receive 45 = .ok (.aload_n 3, 1) := by decide +kernel
theorem d_X_receive_46 : decode b_X_receive 46 = .ok (.getfield 57, 3) := by decide +kernel
theorem d_X_receive_49 : decode b_X_receive 49 = .ok (.ifCond .ne 10, 3) := by decide +kernel
theorem d_X_receive_52 : decode b_X_receive 52 = .ok (.aload_n 3, 1) := by decide +kernel
theorem d_X_receive_53 : decode b_X_receive 53 = .ok (.invokevirtual 61, 3) := by decide +kernel
theorem d_X_receive_56 : decode b_X_receive 56 = .ok (.ifCond .eq 6, 3) := by decide +kernel
theorem d_X_receive_59 : decode b_X_receive 59 = .ok (.bipush (-3), 2) := by decide +kernel
theorem d_X_receive_61 : decode b_X_receive 61 = .ok (.ireturn, 1) := by decide +kernel
theorem d_X_receive_62 : decode b_X_receive 62 = .ok (.aload_n 0, 1) := by decide +kernel
theorem d_X_receive_63 : decode b_X_receive 63 = .ok (.iload_n 1, 1) := by decide +kernel
theorem d_X_receive_64 : decode b_X_receive 64 = .ok (.iload_n 2, 1) := by decide +kernel
theorem d_X_receive_65 : decode b_X_receive 65 = .ok (.invokevirtual 81, 3) := by decide +kernel
theorem d_X_receive_68 : decode b_X_receive 68 = .ok (.astore 5, 2) := by decide +kernel
theorem d_X_receive_70 : decode b_X_receive 70 = .ok (.aload 5, 2) := by decide +kernel
theorem d_X_receive_72 : decode b_X_receive 72 = .ok (.getfield 85, 3) := by decide +kernel
theorem d_X_receive_75 : decode b_X_receive 75 = .ok (.ifCond .ne 6, 3) := by decide +kernel
theorem d_X_receive_78 : decode b_X_receive 78 = .ok (.bipush (-4), 2) := by decide +kernel
theorem d_X_receive_80 : decode b_X_receive 80 = .ok (.ireturn, 1) := by decide +kernel
theorem d_X_receive_81 : decode b_X_receive 81 = .ok (.aload 5, 2) := by decide +kernel
theorem d_X_receive_83 : decode b_X_receive 83 = .ok (.getfield 95, 3) := by decide +kernel
theorem d_X_receive_86 : decode b_X_receive 86 = .ok (.iconst 0, 1) := by decide +kernel
theorem d_X_receive_87 : decode b_X_receive 87 = .ok (.iaload, 1) := by decide +kernel
theorem d_X_receive_88 : decode b_X_receive 88 = .ok (.istore 6, 2) := by decide +kernel
theorem d_X_receive_90 : decode b_X_receive 90 = .ok (.aload 4, 2) := by decide +kernel
theorem d_X_receive_92 : decode b_X_receive 92 = .ok (.getfield 65, 3) := by decide +kernel
theorem d_X_receive_95 : decode b_X_receive 95 = .ok (.getfield 98, 3) := by decide +kernel
theorem d_X_receive_98 : decode b_X_receive 98 = .ok (.iload_n 1, 1) := by decide +kernel
theorem d_X_receive_99 : decode b_X_receive 99 = .ok (.iload 6, 2) := by decide +kernel
theorem d_X_receive_101 : decode b_X_receive 101 = .ok (.iastore, 1) := by decide +kernel
theorem d_X_receive_102 : decode b_X_receive 102 = .ok (.aload 4, 2) := by decide +kernel
theorem d_X_receive_104 : decode b_X_receive 104 = .ok (.getfield 65, 3) := by decide +kernel
theorem d_X_receive_107 : decode b_X_receive 107 = .ok (.bipush 17, 2) := by decide +kernel
theorem d_X_receive_109 : decode b_X_receive 109 = .ok (.aload 4, 2) := by decide +kernel
theorem d_X_receive_111 : decode b_X_receive 111 = .ok (.getfield 65, 3) := by decide +kernel
theorem d_X_receive_114 : decode b_X_receive 114 = .ok (.getfield 69, 3) := by decide +kernel
theorem d_X_receive_117 : decode b_X_receive 117 = .ok (.imul, 1) := by decide +kernel
theorem d_X_receive_118 : decode b_X_receive 118 = .ok (.aload 5, 2) := by decide +kernel
theorem d_X_receive_120 : decode b_X_receive 120 = .ok (.getfield 101, 3) := by decide +kernel
theorem d_X_receive_123 : decode b_X_receive 123 = .ok (.iconst 0, 1) := by decide +kernel
theorem d_X_receive_124 : decode b_X_receive 124 = .ok (.iaload, 1) := by decide +kernel
theorem d_X_receive_125 : decode b_X_receive 125 = .ok (.iadd, 1) := by decide +kernel
theorem d_X_receive_126 : decode b_X_receive 126 = .ok (.iconst 1, 1) := by decide +kernel
theorem d_X_receive_127 : decode b_X_receive 127 = .ok (.iadd, 1) := by decide +kernel
theorem d_X_receive_128 : decode b_X_receive 128 = .ok (.putfield 69, 3) := by decide +kernel
theorem d_X_receive_131 : decode b_X_receive 131 = .ok (.aload 5, 2) := by decide +kernel
theorem d_X_receive_133 : decode b_X_receive 133 = .ok (.invokevirtual 104, 3) := by decide +kernel
theorem d_X_receive_136 : decode b_X_receive 136 = .ok (.iload 6, 2) := by decide +kernel
theorem d_X_receive_138 : decode b_X_receive 138 = .ok (.ireturn, 1) := by decide +kernel
theorem d_X_lose_0 : decode b_X_lose 0 = .ok (.aload_n 0, 1) := by decide +kernel
theorem d_X_lose_1 : decode b_X_lose 1 = .ok (.iload_n 1, 1) := by decide +kernel
theorem d_X_lose_2 : decode b_X_lose 2 = .ok (.iload_n 2, 1) := by decide +kernel
theorem d_X_lose_3 : decode b_X_lose 3 = .ok (.invokevirtual 74, 3) := by decide +kernel
theorem d_X_lose_6 : decode b_X_lose 6 = .ok (.ifCond .ne 5, 3) := by decide +kernel
theorem d_X_lose_9 : decode b_X_lose 9 = .ok (.iconst (-1), 1) := by decide +kernel
theorem d_X_lose_10 : decode b_X_lose 10 = .ok (.ireturn, 1) := by decide +kernel
theorem d_X_lose_11 : decode b_X_lose 11 = .ok (.aload_n 0, 1) := by decide +kernel
theorem d_X_lose_12 : decode b_X_lose 12 = .ok (.iload_n 1, 1) := by decide +kernel
theorem d_X_lose_13 : decode b_X_lose 13 = .ok (.iload_n 2, 1) := by decide +kernel
theorem d_X_lose_14 : decode b_X_lose 14 = .ok (.invokevirtual 81, 3) := by decide +kernel
theorem d_X_lose_17 : decode b_X_lose 17 = .ok (.astore_n 3, 1) := by decide +kernel
theorem d_X_lose_18 : decode b_X_lose 18 = .ok (.aload_n 3, 1) := by decide +kernel
theorem d_X_lose_19 : decode b_X_lose 19 = .ok (.getfield 85, 3) := by decide +kernel
theorem d_X_lose_22 : decode b_X_lose 22 = .ok (.ifCond .ne 6, 3) := by decide +kernel
theorem d_X_lose_25 : decode b_X_lose 25 = .ok (.bipush (-4), 2) := by decide +kernel
theorem d_X_lose_27 : decode b_X_lose 27 = .ok (.ireturn, 1) := by decide +kernel
theorem d_X_lose_28 : decode b_X_lose 28 = .ok (.aload_n 3, 1) := by decide +kernel
theorem d_X_lose_29 : decode b_X_lose 29 = .ok (.getfield 95, 3) := by decide +kernel
theorem d_X_lose_32 : decode b_X_lose 32 = .ok (.iconst 0, 1) := by decide +kernel
theorem d_X_lose_33 : decode b_X_lose 33 = .ok (.iaload, 1) := by decide +kernel
theorem d_X_lose_34 : decode b_X_lose 34 = .ok (.istore 4, 2) := by decide +kernel
theorem d_X_lose_36 : decode b_X_lose 36 = .ok (.aload_n 3, 1) := by decide +kernel
theorem d_X_lose_37 : decode b_X_lose 37 = .ok (.invokevirtual 104, 3) := by decide +kernel
theorem d_X_lose_40 : decode b_X_lose 40 = .ok (.iload 4, 2) := by decide +kernel
theorem d_X_lose_42 : decode b_X_lose 42 = .ok (.ireturn, 1) := by decide +kernel
theorem d_X_join_0 : decode b_X_join 0 = .ok (.aload_n 0, 1) := by decide +kernel
theorem d_X_join_1 : decode b_X_join 1 = .ok (.getfield 24, 3) := by decide +kernel
theorem d_X_join_4 : decode b_X_join 4 = .ok (.iload_n 1, 1) := by decide +kernel
theorem d_X_join_5 : decode b_X_join 5 = .ok (.aaload, 1) := by decide +kernel
theorem d_X_join_6 : decode b_X_join 6 = .ok (.astore 4, 2) := by decide +kernel
theorem d_X_join_8 : decode b_X_join 8 = .ok (.aload_n 0, 1) := by decide +kernel
theorem d_X_join_9 : decode b_X_join 9 = .ok (.getfield 45, 3) := by decide +kernel
theorem d_X_join_12 : decode b_X_join 12 = .ok (.iload_n 2, 1) := by decide +kernel
theorem d_X_join_13 : decode b_X_join 13 = .ok (.baload, 1) := by decide +kernel
theorem d_X_join_14 : decode b_X_join 14 = .ok (.istore 5, 2) := by decide +kernel
theorem d_X_join_16 : decode b_X_join 16 = .ok (.aload 4, 2) := by decide +kernel
theorem d_X_join_18 : decode b_X_join 18 = .ok (.iload_n 2, 1) := by decide +kernel
theorem d_X_join_19 : decode b_X_join 19 = .ok (.iload 5, 2) := by decide +kernel
theorem d_X_join_21 : decode b_X_join 21 = .ok (.iload_n 3, 1) := by decide +kernel
theorem d_X_join_22 : decode b_X_join 22 = .ok (.invokevirtual 143, 3) := by decide +kernel
theorem d_X_join_25 : decode b_X_join 25 = .ok (.iload 5, 2) := by decide +kernel
theorem d_X_join_27 : decode b_X_join 27 = .ok (.ifCond .ne 16, 3) := by decide +kernel
theorem d_X_join_30 : decode b_X_join 30 = .ok (.aload 4, 2) := by decide +kernel
theorem d_X_join_32 : decode b_X_join 32 = .ok (.getfield 147, 3) := by decide +kernel
theorem d_X_join_35 : decode b_X_join 35 = .ok (.aload 4, 2) := by decide +kernel
theorem d_X_join_37 : decode b_X_join 37 = .ok (.getfield 65, 3) := by decide +kernel
theorem d_X_join_40 : decode b_X_join 40 = .ok (.invokevirtual 150, 3) := by decide +kernel
theorem d_X_join_43 : decode b_X_join 43 = .ok (.iconst 0, 1) := by decide +kernel
theorem d_X_join_44 : decode b_X_join 44 = .ok (.istore 6, 2) := by decide +kernel
theorem d_X_join_46 : decode b_X_join 46 = .ok (.iload 6, 2) := by decide +kernel
theorem d_X_join_48 : decode b_X_join 48 = .ok (.aload_n 0, 1) := by decide +kernel
theorem d_X_join_49 : decode b_X_join 49 = .ok (.getfield 18, 3) := by decide +kernel
theorem d_X_join_52 : decode b_X_join 52 = .ok (.if_icmp .ge 111, 3) := by decide +kernel
theorem d_X_join_55 : decode b_X_join 55 = .ok (.aload 4, 2) := by decide +kernel
theorem d_X_join_57 : decode b_X_join 57 = .ok (.getfield 154, 3) := by decide +kernel
theorem d_X_join_60 : decode b_X_join 60 = .ok (.iload 6, 2) := by decide +kernel
theorem d_X_join_62 : decode b_X_join 62 = .ok (.iload 6, 2) := by decide +kernel
theorem d_X_join_64 : decode b_X_join 64 = .ok (.iload_n 1, 1) := by decide +kernel
theorem d_X_join_65 : decode b_X_join 65 = .ok (.if_icmp .eq 22, 3) := by decide +kernel
theorem d_X_join_68 : decode b_X_join 68 = .ok (.iload 5, 2) := by decide +kernel
theorem d_X_join_70 : decode b_X_join 70 = .ok (.ifCond .ne 13, 3) := by decide +kernel
theorem d_X_join_73 : decode b_X_join 73 = .ok (.aload 4, 2) := by decide +kernel
theorem d_X_join_75 : decode b_X_join 75 = .ok (.iload 6, 2) := by decide +kernel
theorem d_X_join_77 : decode b_X_join 77 = .ok (.invokevirtual 157, 3) := by decide +kernel
theorem d_X_join_80 : decode b_X_join 80 = .ok (.ifCond .eq 7, 3) := by decide +kernel
theorem d_X_join_83 : decode b_X_join 83 = .ok (.iconst 1, 1) := by decide +kernel
theorem d_X_join_84 : decode b_X_join 84 = .ok (.goto 4, 3) := by decide +kernel
theorem d_X_join_87 : decode b_X_join 87 = .ok (.iconst 0, 1) := by decide +kernel
theorem d_X_join_88 : decode b_X_join 88 = .ok (.bastore, 1) := by decide +kernel
theorem d_X_join_89 : decode b_X_join 89 = .ok (.aload 4, 2) := by decide +kernel
theorem d_X_join_91 : decode b_X_join 91 = .ok (.getfield 154, 3) := by decide +kernel
theorem d_X_join_94 : decode b_X_join 94 = .ok (.iload 6, 2) := by decide +kernel
theorem d_X_join_96 : decode b_X_join 96 = .ok (.baload, 1) := by decide +kernel
theorem d_X_join_97 : decode b_X_join 97 = .ok (.ifCond .eq 60, 3) := by decide +kernel
theorem d_X_join_100 : decode b_X_join 100 = .ok (.aload 4, 2) := by decide +kernel
theorem d_X_join_102 : decode b_X_join 102 = .ok (.dup, 1) := by decide +kernel
theorem d_X_join_103 : decode b_X_join 103 = .ok (.getfield 160, 3) := by decide +kernel
theorem d_X_join_106 : decode b_X_join 106 = .ok (.iconst 1, 1) := by decide +kernel
theorem d_X_join_107 : decode b_X_join 107 = .ok (.iadd, 1) := by decide +kernel
theorem d_X_join_108 : decode b_X_join 108 = .ok (.putfield 160, 3) := by decide +kernel
theorem d_X_join_111 : decode b_X_join 111 = .ok (.iload 5, 2) := by decide +kernel
theorem d_X_join_113 : decode b_X_join 113 = .ok (.ifCond .eq 17, 3) := by decide +kernel
theorem d_X_join_116 : decode b_X_join 116 = .ok (.aload 4, 2) := by decide +kernel
theorem d_X_join_118 : decode b_X_join 118 = .ok (.getfield 121, 3) := by decide +kernel
theorem d_X_join_121 : decode b_X_join 121 = .ok (.getfield 88, 3) := by decide +kernel
theorem d_X_join_124 : decode b_X_join 124 = .ok (.iload 6, 2) := by decide +kernel
theorem d_X_join_126 : decode b_X_join 126 = .ok (.iaload, 1) := by decide +kernel
theorem d_X_join_127 : decode b_X_join 127 = .ok (.goto 14, 3) := by decide +kernel
theorem d_X_join_130 : decode b_X_join 130 = .ok (.aload 4, 2) := by decide +kernel
theorem d_X_join_132 : decode b_X_join 132 = .ok (.getfield 65, 3) := by decide +kernel
theorem d_X_join_135 : decode b_X_join 135 = .ok (.getfield 98, 3) := by decide +kernel
theorem d_X_join_138 : decode b_X_join 138 = .ok (.iload 6, 2) := by decide +kernel
theorem d_X_join_140 : decode b_X_join 140 = .ok (.iaload, 1) := by decide +kernel
theorem d_X_join_141 : decode b_X_join 141 = .ok (.istore 7, 2) := by decide +kernel
theorem d_X_join_143 : decode b_X_join 143 = .ok (.aload_n 0, 1) := by decide +kernel
theorem d_X_join_144 : decode b_X_join 144 = .ok (.getfield 41, 3) := by decide +kernel
theorem d_X_join_147 : decode b_X_join 147 = .ok (.iconst 0, 1) := by decide +kernel
theorem d_X_join_148 : decode b_X_join 148 = .ok (.iload_n 2, 1) := by decide +kernel
theorem d_X_join_149 : decode b_X_join 149 = .ok (.iload_n 1, 1) := by decide +kernel
theorem d_X_join_150 : decode b_X_join 150 = .ok (.iload 6, 2) := by decide +kernel
theorem d_X_join_152 : decode b_X_join 152 = .ok (.iload 7, 2) := by decide +kernel
theorem d_X_join_154 : decode b_X_join 154 = .ok (.invokevirtual 163, 3) := by decide +kernel
theorem d_X_join_157 : decode b_X_join 157 = .ok (.iinc 6 1, 3) := by decide +kernel
theorem d_X_join_160 : decode b_X_join 160 = .ok (.goto (-114), 3) := by decide +kernel
theorem d_X_join_163 : decode b_X_join 163 = .ok (.return_, 1) := by decide +kernel
theorem d_X_rollBack_0 : decode b_X_rollBack 0 = .ok (.aload_n 0, 1) := by decide +kernel
theorem d_X_rollBack_1 : decode b_X_rollBack 1 = .ok (.getfield 24, 3) := by decide +kernel
theorem d_X_rollBack_4 : decode b_X_rollBack 4 = .ok (.iload_n 1, 1) := by decide +kernel
theorem d_X_rollBack_5 : decode b_X_rollBack 5 = .ok (.aaload, 1) := by decide +kernel
theorem d_X_rollBack_6 : decode b_X_rollBack 6 = .ok (.astore_n 2, 1) := by decide +kernel
theorem d_X_rollBack_7 : decode b_X_rollBack 7 = .ok (.aload_n 2, 1) := by decide +kernel
theorem d_X_rollBack_8 : decode b_X_rollBack 8 = .ok (.getfield 65, 3) := by decide +kernel
theorem d_X_rollBack_11 : decode b_X_rollBack 11 = .ok (.aload_n 2, 1) := by decide +kernel
theorem d_X_rollBack_12 : decode b_X_rollBack 12 = .ok (.getfield 121, 3) := by decide +kernel
theorem d_X_rollBack_15 : decode b_X_rollBack 15 = .ok (.invokevirtual 150, 3) := by decide +kernel
theorem d_X_rollBack_18 : decode b_X_rollBack 18 = .ok (.iconst 0, 1) := by decide +kernel
theorem d_X_rollBack_19 : decode b_X_rollBack 19 = .ok (.istore_n 3, 1) := by decide +kernel
theorem d_X_rollBack_20 : decode b_X_rollBack 20 = .ok (.iload_n 3, 1) := by decide +kernel
theorem d_X_rollBack_21 : decode b_X_rollBack 21 = .ok (.aload_n 0, 1) := by decide +kernel
theorem d_X_rollBack_22 : decode b_X_rollBack 22 = .ok (.getfield 18, 3) := by decide +kernel
theorem d_X_rollBack_25 : decode b_X_rollBack 25 = .ok (.if_icmp .ge 27, 3) := by decide +kernel
theorem d_X_rollBack_28 : decode b_X_rollBack 28 = .ok (.aload_n 0, 1) := by decide +kernel
theorem d_X_rollBack_29 : decode b_X_rollBack 29 = .ok (.iload_n 1, 1) := by decide +kernel
theorem d_X_rollBack_30 : decode b_X_rollBack 30 = .ok (.iload_n 3, 1) := by decide +kernel
theorem d_X_rollBack_31 : decode b_X_rollBack 31 = .ok (.invokevirtual 81, 3) := by decide +kernel
theorem d_X_rollBack_34 : decode b_X_rollBack 34 = .ok (.aload_n 2, 1) := by decide +kernel
theorem d_X_rollBack_35 : decode b_X_rollBack 35 = .ok (.getfield 65, 3) := by decide +kernel
theorem d_X_rollBack_38 : decode b_X_rollBack 38 = .ok (.getfield 88, 3) := by decide +kernel
theorem d_X_rollBack_41 : decode b_X_rollBack 41 = .ok (.iload_n 3, 1) := by decide +kernel
theorem d_X_rollBack_42 : decode b_X_rollBack 42 = .ok (.iaload, 1) := by decide +kernel
theorem d_X_rollBack_43 : decode b_X_rollBack 43 = .ok (.invokevirtual 216, 3) := by decide +kernel
theorem d_X_rollBack_46 : decode b_X_rollBack 46 = .ok (.iinc 3 1, 3) := by decide +kernel
theorem d_X_rollBack_49 : decode b_X_rollBack 49 = .ok (.goto (-29), 3) := by decide +kernel
theorem d_X_rollBack_52 : decode b_X_rollBack 52 = .ok (.aload_n 2, 1) := by decide +kernel
theorem d_X_rollBack_53 : decode b_X_rollBack 53 = .ok (.iconst 0, 1) := by decide +kernel
theorem d_X_rollBack_54 : decode b_X_rollBack 54 = .ok (.putfield 57, 3) := by decide +kernel
theorem d_X_rollBack_57 : decode b_X_rollBack 57 = .ok (.aload_n 2, 1) := by decide +kernel
theorem d_X_rollBack_58 : decode b_X_rollBack 58 = .ok (.dup, 1) := by decide +kernel
theorem d_X_rollBack_59 : decode b_X_rollBack 59 = .ok (.getfield 133, 3) := by decide +kernel
theorem d_X_rollBack_62 : decode b_X_rollBack 62 = .ok (.iconst 1, 1) := by decide +kernel
theorem d_X_rollBack_63 : decode b_X_rollBack 63 = .ok (.iadd, 1) := by decide +kernel
theorem d_X_rollBack_64 : decode b_X_rollBack 64 = .ok (.putfield 133, 3) := by decide +kernel
theorem d_X_rollBack_67 : decode b_X_rollBack 67 = .ok (.return_, 1) := by decide +kernel
theorem d_X_follow_0 : decode b_X_follow 0 = .ok (.aload_n 0, 1) := by decide +kernel
theorem d_X_follow_1 : decode b_X_follow 1 = .ok (.getfield 24, 3) := by decide +kernel
theorem d_X_follow_4 : decode b_X_follow 4 = .ok (.iload_n 1, 1) := by decide +kernel
theorem d_X_follow_5 : decode b_X_follow 5 = .ok (.aaload, 1) := by decide +kernel
theorem d_X_follow_6 : decode b_X_follow 6 = .ok (.astore_n 3, 1) := by decide +kernel
theorem d_X_follow_7 : decode b_X_follow 7 = .ok (.aload_n 3, 1) := by decide +kernel
theorem d_X_follow_8 : decode b_X_follow 8 = .ok (.getfield 124, 3) := by decide +kernel
theorem d_X_follow_11 : decode b_X_follow 11 = .ok (.istore 4, 2) := by decide +kernel
theorem d_X_follow_13 : decode b_X_follow 13 = .ok (.iconst 0, 1) := by decide +kernel
theorem d_X_follow_14 : decode b_X_follow 14 = .ok (.istore 5, 2) := by decide +kernel
theorem d_X_follow_16 : decode b_X_follow 16 = .ok (.iload 5, 2) := by decide +kernel
theorem d_X_follow_18 : decode b_X_follow 18 = .ok (.aload_n 0, 1) := by decide +kernel
theorem d_X_follow_19 : decode b_X_follow 19 = .ok (.getfield 18, 3) := by decide +kernel
theorem d_X_follow_22 : decode b_X_follow 22 = .ok (.if_icmp .ge 33, 3) := by decide +kernel
theorem d_X_follow_25 : decode b_X_follow 25 = .ok (.aload_n 3, 1) := by decide +kernel
theorem d_X_follow_26 : decode b_X_follow 26 = .ok (.getfield 154, 3) := by decide +kernel
theorem d_X_follow_29 : decode b_X_follow 29 = .ok (.iload 5, 2) := by decide +kernel
theorem d_X_follow_31 : decode b_X_follow 31 = .ok (.baload, 1) := by decide +kernel
theorem d_X_follow_32 : decode b_X_follow 32 = .ok (.ifCond .eq 17, 3) := by decide +kernel
theorem d_X_follow_35 : decode b_X_follow 35 = .ok (.aload_n 0, 1) := by decide +kernel
theorem d_X_follow_36 : decode b_X_follow 36 = .ok (.getfield 41, 3) := by decide +kernel
theorem d_X_follow_39 : decode b_X_follow 39 = .ok (.iconst 2, 1) := by decide +kernel
theorem d_X_follow_40 : decode b_X_follow 40 = .ok (.iload 4, 2) := by decide +kernel
theorem d_X_follow_42 : decode b_X_follow 42 = .ok (.iload_n 1, 1) := by decide +kernel
theorem d_X_follow_43 : decode b_X_follow 43 = .ok (.iload 5, 2) := by decide +kernel
theorem d_X_follow_45 : decode b_X_follow 45 = .ok (.iload_n 2, 1) := by decide +kernel
theorem d_X_follow_46 : decode b_X_follow 46 = .ok (.invokevirtual 163, 3) := by decide +kernel
theorem d_X_follow_49 : decode b_X_follow 49 = .ok (.iinc 5 1, 3) := by decide +kernel
theorem d_X_follow_52 : decode b_X_follow 52 = .ok (.goto (-36), 3) := by decide +kernel
theorem d_X_follow_55 : decode b_X_follow 55 = .ok (.aload_n 3, 1) := by decide +kernel
theorem d_X_follow_56 : decode b_X_follow 56 = .ok (.iconst 0, 1) := by decide +kernel
theorem d_X_follow_57 : decode b_X_follow 57 = .ok (.putfield 124, 3) := by decide +kernel
theorem d_X_follow_60 : decode b_X_follow 60 = .ok (.iload_n 2, 1) := by decide +kernel
theorem d_X_follow_61 : decode b_X_follow 61 = .ok (.iconst 1, 1) := by decide +kernel
theorem d_X_follow_62 : decode b_X_follow 62 = .ok (.if_icmp .ne 25, 3) := by decide +kernel
theorem d_X_follow_65 : decode b_X_follow 65 = .ok (.aload_n 0, 1) := by decide +kernel
theorem d_X_follow_66 : decode b_X_follow 66 = .ok (.getfield 45, 3) := by decide +kernel
theorem d_X_follow_69 : decode b_X_follow 69 = .ok (.iload 4, 2) := by decide +kernel
theorem d_X_follow_71 : decode b_X_follow 71 = .ok (.baload, 1) := by decide +kernel
theorem d_X_follow_72 : decode b_X_follow 72 = .ok (.ifCond .eq 11, 3) := by decide +kernel
theorem d_X_follow_75 : decode b_X_follow 75 = .ok (.aload_n 0, 1) := by decide +kernel
theorem d_X_follow_76 : decode b_X_follow 76 = .ok (.iload_n 1, 1) := by decide +kernel
theorem d_X_follow_77 : decode b_X_follow 77 = .ok (.invokevirtual 210, 3) := by decide +kernel
theorem d_X_follow_80 : decode b_X_follow 80 = .ok (.goto 7, 3) := by decide +kernel
theorem d_X_follow_83 : decode b_X_follow 83 = .ok (.aload_n 3, 1) := by decide +kernel
theorem d_X_follow_84 : decode b_X_follow 84 = .ok (.invokevirtual 213, 3) := by decide +kernel
theorem d_X_follow_87 : decode b_X_follow 87 = .ok (.return_, 1) := by decide +kernel
theorem d_X_concludeWhenAnswered_0 : decode b_X_concludeWhenAnswered 0 = .ok (.aload_n 0, 1) := by decide +kernel
theorem d_X_concludeWhenAnswered_1 : decode b_X_concludeWhenAnswered 1 = .ok (.getfield 24, 3) := by decide +kernel
theorem d_X_concludeWhenAnswered_4 : decode b_X_concludeWhenAnswered 4 = .ok (.iload_n 1, 1) := by decide +kernel
theorem d_X_concludeWhenAnswered_5 : decode b_X_concludeWhenAnswered 5 = .ok (.aaload, 1) := by decide +kernel
theorem d_X_concludeWhenAnswered_6 : decode b_X_concludeWhenAnswered 6 = .ok (.astore_n 2, 1) := by decide +kernel
theorem d_X_concludeWhenAnswered_7 : decode b_X_concludeWhenAnswered 7 = .ok (.aload_n 2, 1) := by decide +kernel
theorem d_X_concludeWhenAnswered_8 : decode b_X_concludeWhenAnswered 8 = .ok (.getfield 160, 3) := by decide +kernel
theorem d_X_concludeWhenAnswered_11 : decode b_X_concludeWhenAnswered 11 = .ok (.ifCond .le 4, 3) := by decide +kernel
theorem d_X_concludeWhenAnswered_14 : decode b_X_concludeWhenAnswered 14 = .ok (.return_, 1) := by decide +kernel
theorem d_X_concludeWhenAnswered_15 : decode b_X_concludeWhenAnswered 15 = .ok (.aload_n 2, 1) := by decide +kernel
theorem d_X_concludeWhenAnswered_16 : decode b_X_concludeWhenAnswered 16 = .ok (.getfield 167, 3) := by decide +kernel
theorem d_X_concludeWhenAnswered_19 : decode b_X_concludeWhenAnswered 19 = .ok (.iconst (-1), 1) := by decide +kernel
theorem d_X_concludeWhenAnswered_20 : decode b_X_concludeWhenAnswered 20 = .ok (.if_icmp .eq 35, 3) := by decide +kernel
theorem d_X_concludeWhenAnswered_23 : decode b_X_concludeWhenAnswered 23 = .ok (.aload_n 2, 1) := by decide +kernel
theorem d_X_concludeWhenAnswered_24 : decode b_X_concludeWhenAnswered 24 = .ok (.getfield 170, 3) := by decide +kernel
theorem d_X_concludeWhenAnswered_27 : decode b_X_concludeWhenAnswered 27 = .ok (.ifCond .eq 7, 3) := by decide +kernel
theorem d_X_concludeWhenAnswered_30 : decode b_X_concludeWhenAnswered 30 = .ok (.iconst 1, 1) := by decide +kernel
theorem d_X_concludeWhenAnswered_31 : decode b_X_concludeWhenAnswered 31 = .ok (.goto 4, 3) := by decide +kernel
theorem d_X_concludeWhenAnswered_34 : decode b_X_concludeWhenAnswered 34 = .ok (.iconst 0, 1) := by decide +kernel
theorem d_X_concludeWhenAnswered_35 : decode b_X_concludeWhenAnswered 35 = .ok (.istore_n 3, 1) := by decide +kernel
theorem d_X_concludeWhenAnswered_36 : decode b_X_concludeWhenAnswered 36 = .ok (.aload_n 0, 1) := by decide +kernel
theorem d_X_concludeWhenAnswered_37 : decode b_X_concludeWhenAnswered 37 = .ok (.getfield 41, 3) := by decide +kernel
theorem d_X_concludeWhenAnswered_40 : decode b_X_concludeWhenAnswered 40 = .ok (.iconst 1, 1) := by decide +kernel
theorem d_X_concludeWhenAnswered_41 : decode b_X_concludeWhenAnswered 41 = .ok (.aload_n 2, 1) := by decide +kernel
theorem d_X_concludeWhenAnswered_42 : decode b_X_concludeWhenAnswered 42 = .ok (.getfield 124, 3) := by decide +kernel
theorem d_X_concludeWhenAnswered_45 : decode b_X_concludeWhenAnswered 45 = .ok (.iload_n 1, 1) := by decide +kernel
theorem d_X_concludeWhenAnswered_46 : decode b_X_concludeWhenAnswered 46 = .ok (.aload_n 2, 1) := by decide +kernel
theorem d_X_concludeWhenAnswered_47 : decode b_X_concludeWhenAnswered 47 = .ok (.getfield 167, 3) := by decide +kernel
theorem d_X_concludeWhenAnswered_50 : decode b_X_concludeWhenAnswered 50 = .ok (.iload_n 3, 1) := by decide +kernel
theorem d_X_concludeWhenAnswered_51 : decode b_X_concludeWhenAnswered 51 = .ok (.invokevirtual 163, 3) := by decide +kernel
theorem d_X_concludeWhenAnswered_54 : decode b_X_concludeWhenAnswered 54 = .ok (.return_, 1) := by decide +kernel
theorem d_X_concludeWhenAnswered_55 : decode b_X_concludeWhenAnswered 55 = .ok (.aload_n 2, 1) := by decide +kernel
theorem d_X_concludeWhenAnswered_56 : decode b_X_concludeWhenAnswered 56 = .ok (.getfield 170, 3) := by decide +kernel
theorem d_X_concludeWhenAnswered_59 : decode b_X_concludeWhenAnswered 59 = .ok (.ifCond .eq 7, 3) := by decide +kernel
theorem d_X_concludeWhenAnswered_62 : decode b_X_concludeWhenAnswered 62 = .ok (.iconst 1, 1) := by decide +kernel
theorem d_X_concludeWhenAnswered_63 : decode b_X_concludeWhenAnswered 63 = .ok (.goto 4, 3) := by decide +kernel
theorem d_X_concludeWhenAnswered_66 : decode b_X_concludeWhenAnswered 66 = .ok (.iconst 2, 1) := by decide +kernel
theorem d_X_concludeWhenAnswered_67 : decode b_X_concludeWhenAnswered 67 = .ok (.istore_n 3, 1) := by decide +kernel
theorem d_X_concludeWhenAnswered_68 : decode b_X_concludeWhenAnswered 68 = .ok (.aload_n 0, 1) := by decide +kernel
theorem d_X_concludeWhenAnswered_69 : decode b_X_concludeWhenAnswered 69 = .ok (.getfield 49, 3) := by decide +kernel
theorem d_X_concludeWhenAnswered_72 : decode b_X_concludeWhenAnswered 72 = .ok (.aload_n 2, 1) := by decide +kernel
theorem d_X_concludeWhenAnswered_73 : decode b_X_concludeWhenAnswered 73 = .ok (.getfield 124, 3) := by decide +kernel
theorem d_X_concludeWhenAnswered_76 : decode b_X_concludeWhenAnswered 76 = .ok (.iload_n 3, 1) := by decide +kernel
theorem d_X_concludeWhenAnswered_77 : decode b_X_concludeWhenAnswered 77 = .ok (.iastore, 1) := by decide +kernel
theorem d_X_concludeWhenAnswered_78 : decode b_X_concludeWhenAnswered 78 = .ok (.aload_n 0, 1) := by decide +kernel
theorem d_X_concludeWhenAnswered_79 : decode b_X_concludeWhenAnswered 79 = .ok (.iload_n 1, 1) := by decide +kernel
theorem d_X_concludeWhenAnswered_80 : decode b_X_concludeWhenAnswered 80 = .ok (.iload_n 3, 1) := by decide +kernel
theorem d_X_concludeWhenAnswered_81 : decode b_X_concludeWhenAnswered 81 = .ok (.invokevirtual 173, 3) := by decide +kernel
theorem d_X_concludeWhenAnswered_84 : decode b_X_concludeWhenAnswered 84 = .ok (.return_, 1) := by decide +kernel
theorem d_X_begin_0 : decode b_X_begin 0 = .ok (.aload_n 0, 1) := by decide +kernel
theorem d_X_begin_1 : decode b_X_begin 1 = .ok (.getfield 127, 3) := by decide +kernel
theorem d_X_begin_4 : decode b_X_begin 4 = .ok (.sipush 512, 3) := by decide +kernel
theorem d_X_begin_7 : decode b_X_begin 7 = .ok (.if_icmp .lt 6, 3) := by decide +kernel
theorem d_X_begin_10 : decode b_X_begin 10 = .ok (.bipush (-3), 2) := by decide +kernel
theorem d_X_begin_12 : decode b_X_begin 12 = .ok (.ireturn, 1) := by decide +kernel
theorem d_X_begin_13 : decode b_X_begin 13 = .ok (.aload_n 0, 1) := by decide +kernel
theorem d_X_begin_14 : decode b_X_begin 14 = .ok (.dup, 1) := by decide +kernel
theorem d_X_begin_15 : decode b_X_begin 15 = .ok (.getfield 127, 3) := by decide +kernel
theorem d_X_begin_18 : decode b_X_begin 18 = .ok (.iconst 1, 1) := by decide +kernel
theorem d_X_begin_19 : decode b_X_begin 19 = .ok (.iadd, 1) := by decide +kernel
theorem d_X_begin_20 : decode b_X_begin 20 = .ok (.putfield 127, 3) := by decide +kernel
theorem d_X_begin_23 : decode b_X_begin 23 = .ok (.aload_n 0, 1) := by decide +kernel
theorem d_X_begin_24 : decode b_X_begin 24 = .ok (.getfield 127, 3) := by decide +kernel
theorem d_X_begin_27 : decode b_X_begin 27 = .ok (.istore_n 3, 1) := by decide +kernel
theorem d_X_begin_28 : decode b_X_begin 28 = .ok (.aload_n 0, 1) := by decide +kernel
theorem d_X_begin_29 : decode b_X_begin 29 = .ok (.getfield 45, 3) := by decide +kernel
theorem d_X_begin_32 : decode b_X_begin 32 = .ok (.iload_n 3, 1) := by decide +kernel
theorem d_X_begin_33 : decode b_X_begin 33 = .ok (.iload_n 2, 1) := by decide +kernel
theorem d_X_begin_34 : decode b_X_begin 34 = .ok (.bastore, 1) := by decide +kernel
theorem d_X_begin_35 : decode b_X_begin 35 = .ok (.aload_n 0, 1) := by decide +kernel
theorem d_X_begin_36 : decode b_X_begin 36 = .ok (.iload_n 1, 1) := by decide +kernel
theorem d_X_begin_37 : decode b_X_begin 37 = .ok (.iload_n 3, 1) := by decide +kernel
theorem d_X_begin_38 : decode b_X_begin 38 = .ok (.iconst (-1), 1) := by decide +kernel
theorem d_X_begin_39 : decode b_X_begin 39 = .ok (.invokevirtual 136, 3) := by decide +kernel
theorem d_X_begin_42 : decode b_X_begin 42 = .ok (.aload_n 0, 1) := by decide +kernel
theorem d_X_begin_43 : decode b_X_begin 43 = .ok (.iload_n 1, 1) := by decide +kernel
theorem d_X_begin_44 : decode b_X_begin 44 = .ok (.invokevirtual 140, 3) := by decide +kernel
theorem d_X_begin_47 : decode b_X_begin 47 = .ok (.iload_n 3, 1) := by decide +kernel
theorem d_X_begin_48 : decode b_X_begin 48 = .ok (.ireturn, 1) := by decide +kernel
theorem d_X_checkpoint_0 : decode b_X_checkpoint 0 = .ok (.aload_n 0, 1) := by decide +kernel
theorem d_X_checkpoint_1 : decode b_X_checkpoint 1 = .ok (.iload_n 1, 1) := by decide +kernel
theorem d_X_checkpoint_2 : decode b_X_checkpoint 2 = .ok (.invokevirtual 53, 3) := by decide +kernel
theorem d_X_checkpoint_5 : decode b_X_checkpoint 5 = .ok (.ifCond .ne 5, 3) := by decide +kernel
theorem d_X_checkpoint_8 : decode b_X_checkpoint 8 = .ok (.iconst (-1), 1) := by decide +kernel
theorem d_X_checkpoint_9 : decode b_X_checkpoint 9 = .ok (.ireturn, 1) := by decide +kernel
theorem d_X_checkpoint_10 : decode b_X_checkpoint 10 = .ok (.aload_n 0, 1) := by decide +kernel
theorem d_X_checkpoint_11 : decode b_X_checkpoint 11 = .ok (.getfield 24, 3) := by decide +kernel
theorem d_X_checkpoint_14 : decode b_X_checkpoint 14 = .ok (.iload_n 1, 1) := by decide +kernel
theorem d_X_checkpoint_15 : decode b_X_checkpoint 15 = .ok (.aaload, 1) := by decide +kernel
theorem d_X_checkpoint_16 : decode b_X_checkpoint 16 = .ok (.getfield 57, 3) := by decide +kernel
theorem d_X_checkpoint_19 : decode b_X_checkpoint 19 = .ok (.ifCond .eq 6, 3) := by decide +kernel
theorem d_X_checkpoint_22 : decode b_X_checkpoint 22 = .ok (.bipush (-2), 2) := by decide +kernel
theorem d_X_checkpoint_24 : decode b_X_checkpoint 24 = .ok (.ireturn, 1) := by decide +kernel
theorem d_X_checkpoint_25 : decode b_X_checkpoint 25 = .ok (.aload_n 0, 1) := by decide +kernel
theorem d_X_checkpoint_26 : decode b_X_checkpoint 26 = .ok (.getfield 24, 3) := by decide +kernel
theorem d_X_checkpoint_29 : decode b_X_checkpoint 29 = .ok (.iload_n 1, 1) := by decide +kernel
theorem d_X_checkpoint_30 : decode b_X_checkpoint 30 = .ok (.aaload, 1) := by decide +kernel
theorem d_X_checkpoint_31 : decode b_X_checkpoint 31 = .ok (.invokevirtual 78, 3) := by decide +kernel
theorem d_X_checkpoint_34 : decode b_X_checkpoint 34 = .ok (.ifCond .eq 6, 3) := by decide +kernel
theorem d_X_checkpoint_37 : decode b_X_checkpoint 37 = .ok (.bipush (-3), 2) := by decide +kernel
theorem d_X_checkpoint_39 : decode b_X_checkpoint 39 = .ok (.ireturn, 1) := by decide +kernel
theorem d_X_checkpoint_40 : decode b_X_checkpoint 40 = .ok (.aload_n 0, 1) := by decide +kernel
theorem d_X_checkpoint_41 : decode b_X_checkpoint 41 = .ok (.iload_n 1, 1) := by decide +kernel
theorem d_X_checkpoint_42 : decode b_X_checkpoint 42 = .ok (.iconst 0, 1) := by decide +kernel
theorem d_X_checkpoint_43 : decode b_X_checkpoint 43 = .ok (.invokevirtual 107, 3) := by decide +kernel
theorem d_X_checkpoint_46 : decode b_X_checkpoint 46 = .ok (.ireturn, 1) := by decide +kernel
theorem d_X_crash_0 : decode b_X_crash 0 = .ok (.aload_n 0, 1) := by decide +kernel
theorem d_X_crash_1 : decode b_X_crash 1 = .ok (.iload_n 1, 1) := by decide +kernel
theorem d_X_crash_2 : decode b_X_crash 2 = .ok (.invokevirtual 53, 3) := by decide +kernel
theorem d_X_crash_5 : decode b_X_crash 5 = .ok (.ifCond .ne 5, 3) := by decide +kernel
theorem d_X_crash_8 : decode b_X_crash 8 = .ok (.iconst (-1), 1) := by decide +kernel
theorem d_X_crash_9 : decode b_X_crash 9 = .ok (.ireturn, 1) := by decide +kernel
theorem d_X_crash_10 : decode b_X_crash 10 = .ok (.aload_n 0, 1) := by decide +kernel
theorem d_X_crash_11 : decode b_X_crash 11 = .ok (.getfield 24, 3) := by decide +kernel
theorem d_X_crash_14 : decode b_X_crash 14 = .ok (.iload_n 1, 1) := by decide +kernel
theorem d_X_crash_15 : decode b_X_crash 15 = .ok (.aaload, 1) := by decide +kernel
theorem d_X_crash_16 : decode b_X_crash 16 = .ok (.getfield 57, 3) := by decide +kernel
theorem d_X_crash_19 : decode b_X_crash 19 = .ok (.ifCond .eq 6, 3) := by decide +kernel
theorem d_X_crash_22 : decode b_X_crash 22 = .ok (.bipush (-2), 2) := by decide +kernel
theorem d_X_crash_24 : decode b_X_crash 24 = .ok (.ireturn, 1) := by decide +kernel
theorem d_X_crash_25 : decode b_X_crash 25 = .ok (.aload_n 0, 1) := by decide +kernel
theorem d_X_crash_26 : decode b_X_crash 26 = .ok (.getfield 24, 3) := by decide +kernel
theorem d_X_crash_29 : decode b_X_crash 29 = .ok (.iload_n 1, 1) := by decide +kernel
theorem d_X_crash_30 : decode b_X_crash 30 = .ok (.aaload, 1) := by decide +kernel
theorem d_X_crash_31 : decode b_X_crash 31 = .ok (.invokevirtual 78, 3) := by decide +kernel
theorem d_X_crash_34 : decode b_X_crash 34 = .ok (.ifCond .eq 6, 3) := by decide +kernel
theorem d_X_crash_37 : decode b_X_crash 37 = .ok (.bipush (-3), 2) := by decide +kernel
theorem d_X_crash_39 : decode b_X_crash 39 = .ok (.ireturn, 1) := by decide +kernel
theorem d_X_crash_40 : decode b_X_crash 40 = .ok (.aload_n 0, 1) := by decide +kernel
theorem d_X_crash_41 : decode b_X_crash 41 = .ok (.getfield 24, 3) := by decide +kernel
theorem d_X_crash_44 : decode b_X_crash 44 = .ok (.iload_n 1, 1) := by decide +kernel
theorem d_X_crash_45 : decode b_X_crash 45 = .ok (.aaload, 1) := by decide +kernel
theorem d_X_crash_46 : decode b_X_crash 46 = .ok (.iconst 1, 1) := by decide +kernel
theorem d_X_crash_47 : decode b_X_crash 47 = .ok (.putfield 57, 3) := by decide +kernel
theorem d_X_crash_50 : decode b_X_crash 50 = .ok (.iconst 0, 1) := by decide +kernel
theorem d_X_crash_51 : decode b_X_crash 51 = .ok (.ireturn, 1) := by decide +kernel
theorem d_X_restart_0 : decode b_X_restart 0 = .ok (.aload_n 0, 1) := by decide +kernel
theorem d_X_restart_1 : decode b_X_restart 1 = .ok (.iload_n 1, 1) := by decide +kernel
theorem d_X_restart_2 : decode b_X_restart 2 = .ok (.invokevirtual 53, 3) := by decide +kernel
theorem d_X_restart_5 : decode b_X_restart 5 = .ok (.ifCond .ne 5, 3) := by decide +kernel
theorem d_X_restart_8 : decode b_X_restart 8 = .ok (.iconst (-1), 1) := by decide +kernel
theorem d_X_restart_9 : decode b_X_restart 9 = .ok (.ireturn, 1) := by decide +kernel
theorem d_X_restart_10 : decode b_X_restart 10 = .ok (.aload_n 0, 1) := by decide +kernel
theorem d_X_restart_11 : decode b_X_restart 11 = .ok (.getfield 24, 3) := by decide +kernel
theorem d_X_restart_14 : decode b_X_restart 14 = .ok (.iload_n 1, 1) := by decide +kernel
theorem d_X_restart_15 : decode b_X_restart 15 = .ok (.aaload, 1) := by decide +kernel
theorem d_X_restart_16 : decode b_X_restart 16 = .ok (.getfield 57, 3) := by decide +kernel
theorem d_X_restart_19 : decode b_X_restart 19 = .ok (.ifCond .ne 6, 3) := by decide +kernel
theorem d_X_restart_22 : decode b_X_restart 22 = .ok (.bipush (-2), 2) := by decide +kernel
theorem d_X_restart_24 : decode b_X_restart 24 = .ok (.ireturn, 1) := by decide +kernel
theorem d_X_restart_25 : decode b_X_restart 25 = .ok (.aload_n 0, 1) := by decide +kernel
theorem d_X_restart_26 : decode b_X_restart 26 = .ok (.getfield 24, 3) := by decide +kernel
theorem d_X_restart_29 : decode b_X_restart 29 = .ok (.iload_n 1, 1) := by decide +kernel
theorem d_X_restart_30 : decode b_X_restart 30 = .ok (.aaload, 1) := by decide +kernel
theorem d_X_restart_31 : decode b_X_restart 31 = .ok (.invokevirtual 78, 3) := by decide +kernel
theorem d_X_restart_34 : decode b_X_restart 34 = .ok (.ifCond .eq 6, 3) := by decide +kernel
theorem d_X_restart_37 : decode b_X_restart 37 = .ok (.bipush (-3), 2) := by decide +kernel
theorem d_X_restart_39 : decode b_X_restart 39 = .ok (.ireturn, 1) := by decide +kernel
theorem d_X_restart_40 : decode b_X_restart 40 = .ok (.aload_n 0, 1) := by decide +kernel
theorem d_X_restart_41 : decode b_X_restart 41 = .ok (.iload_n 1, 1) := by decide +kernel
theorem d_X_restart_42 : decode b_X_restart 42 = .ok (.iconst 1, 1) := by decide +kernel
theorem d_X_restart_43 : decode b_X_restart 43 = .ok (.invokevirtual 107, 3) := by decide +kernel
theorem d_X_restart_46 : decode b_X_restart 46 = .ok (.ireturn, 1) := by decide +kernel
theorem d_X_reply_0 : decode b_X_reply 0 = .ok (.aload_n 0, 1) := by decide +kernel
theorem d_X_reply_1 : decode b_X_reply 1 = .ok (.getfield 41, 3) := by decide +kernel
theorem d_X_reply_4 : decode b_X_reply 4 = .ok (.iconst 1, 1) := by decide +kernel
theorem d_X_reply_5 : decode b_X_reply 5 = .ok (.aload_n 1, 1) := by decide +kernel
theorem d_X_reply_6 : decode b_X_reply 6 = .ok (.getfield 193, 3) := by decide +kernel
theorem d_X_reply_9 : decode b_X_reply 9 = .ok (.aload_n 1, 1) := by decide +kernel
theorem d_X_reply_10 : decode b_X_reply 10 = .ok (.getfield 190, 3) := by decide +kernel
theorem d_X_reply_13 : decode b_X_reply 13 = .ok (.aload_n 1, 1) := by decide +kernel
theorem d_X_reply_14 : decode b_X_reply 14 = .ok (.getfield 200, 3) := by decide +kernel
theorem d_X_reply_17 : decode b_X_reply 17 = .ok (.iload_n 2, 1) := by decide +kernel
theorem d_X_reply_18 : decode b_X_reply 18 = .ok (.invokevirtual 163, 3) := by decide +kernel
theorem d_X_reply_21 : decode b_X_reply 21 = .ok (.return_, 1) := by decide +kernel
theorem d_X_hearRequest_0 : decode b_X_hearRequest 0 = .ok (.aload_n 0, 1) := by decide +kernel
theorem d_X_hearRequest_1 : decode b_X_hearRequest 1 = .ok (.getfield 24, 3) := by decide +kernel
theorem d_X_hearRequest_4 : decode b_X_hearRequest 4 = .ok (.aload_n 1, 1) := by decide +kernel
theorem d_X_hearRequest_5 : decode b_X_hearRequest 5 = .ok (.getfield 190, 3) := by decide +kernel
theorem d_X_hearRequest_8 : decode b_X_hearRequest 8 = .ok (.aaload, 1) := by decide +kernel
theorem d_X_hearRequest_9 : decode b_X_hearRequest 9 = .ok (.astore_n 2, 1) := by decide +kernel
theorem d_X_hearRequest_10 : decode b_X_hearRequest 10 = .ok (.aload_n 0, 1) := by decide +kernel
theorem d_X_hearRequest_11 : decode b_X_hearRequest 11 = .ok (.getfield 45, 3) := by decide +kernel
theorem d_X_hearRequest_14 : decode b_X_hearRequest 14 = .ok (.aload_n 1, 1) := by decide +kernel
theorem d_X_hearRequest_15 : decode b_X_hearRequest 15 = .ok (.getfield 193, 3) := by decide +kernel
theorem d_X_hearRequest_18 : decode b_X_hearRequest 18 = .ok (.baload, 1) := by decide +kernel
theorem d_X_hearRequest_19 : decode b_X_hearRequest 19 = .ok (.istore_n 3, 1) := by decide +kernel
theorem d_X_hearRequest_20 : decode b_X_hearRequest 20 = .ok (.aload_n 2, 1) := by decide +kernel
theorem d_X_hearRequest_21 : decode b_X_hearRequest 21 = .ok (.getfield 124, 3) := by decide +kernel
theorem d_X_hearRequest_24 : decode b_X_hearRequest 24 = .ok (.aload_n 1, 1) := by decide +kernel
theorem d_X_hearRequest_25 : decode b_X_hearRequest 25 = .ok (.getfield 193, 3) := by decide +kernel
theorem d_X_hearRequest_28 : decode b_X_hearRequest 28 = .ok (.if_icmp .ne 12, 3) := by decide +kernel
theorem d_X_hearRequest_31 : decode b_X_hearRequest 31 = .ok (.aload_n 0, 1) := by decide +kernel
theorem d_X_hearRequest_32 : decode b_X_hearRequest 32 = .ok (.aload_n 1, 1) := by decide +kernel
theorem d_X_hearRequest_33 : decode b_X_hearRequest 33 = .ok (.iconst 1, 1) := by decide +kernel
theorem d_X_hearRequest_34 : decode b_X_hearRequest 34 = .ok (.invokevirtual 196, 3) := by decide +kernel
theorem d_X_hearRequest_37 : decode b_X_hearRequest 37 = .ok (.goto 92, 3) := by decide +kernel
theorem d_X_hearRequest_40 : decode b_X_hearRequest 40 = .ok (.aload_n 2, 1) := by decide +kernel
theorem d_X_hearRequest_41 : decode b_X_hearRequest 41 = .ok (.invokevirtual 78, 3) := by decide +kernel
theorem d_X_hearRequest_44 : decode b_X_hearRequest 44 = .ok (.ifCond .eq 12, 3) := by decide +kernel
theorem d_X_hearRequest_47 : decode b_X_hearRequest 47 = .ok (.aload_n 0, 1) := by decide +kernel
theorem d_X_hearRequest_48 : decode b_X_hearRequest 48 = .ok (.aload_n 1, 1) := by decide +kernel
theorem d_X_hearRequest_49 : decode b_X_hearRequest 49 = .ok (.iconst 0, 1) := by decide +kernel
theorem d_X_hearRequest_50 : decode b_X_hearRequest 50 = .ok (.invokevirtual 196, 3) := by decide +kernel
theorem d_X_hearRequest_53 : decode b_X_hearRequest 53 = .ok (.goto 76, 3) := by decide +kernel
theorem d_X_hearRequest_56 : decode b_X_hearRequest 56 = .ok (.aload_n 2, 1) := by decide +kernel
theorem d_X_hearRequest_57 : decode b_X_hearRequest 57 = .ok (.getfield 57, 3) := by decide +kernel
theorem d_X_hearRequest_60 : decode b_X_hearRequest 60 = .ok (.ifCond .eq 20, 3) := by decide +kernel
theorem d_X_hearRequest_63 : decode b_X_hearRequest 63 = .ok (.aload_n 0, 1) := by decide +kernel
theorem d_X_hearRequest_64 : decode b_X_hearRequest 64 = .ok (.aload_n 1, 1) := by decide +kernel
theorem d_X_hearRequest_65 : decode b_X_hearRequest 65 = .ok (.iload_n 3, 1) := by decide +kernel
theorem d_X_hearRequest_66 : decode b_X_hearRequest 66 = .ok (.ifCond .eq 7, 3) := by decide +kernel
theorem d_X_hearRequest_69 : decode b_X_hearRequest 69 = .ok (.iconst 1, 1) := by decide +kernel
theorem d_X_hearRequest_70 : decode b_X_hearRequest 70 = .ok (.goto 4, 3) := by decide +kernel
theorem d_X_hearRequest_73 : decode b_X_hearRequest 73 = .ok (.iconst 0, 1) := by decide +kernel
theorem d_X_hearRequest_74 : decode b_X_hearRequest 74 = .ok (.invokevirtual 196, 3) := by decide +kernel
theorem d_X_hearRequest_77 : decode b_X_hearRequest 77 = .ok (.goto 52, 3) := by decide +kernel
theorem d_X_hearRequest_80 : decode b_X_hearRequest 80 = .ok (.aload_n 2, 1) := by decide +kernel
theorem d_X_hearRequest_81 : decode b_X_hearRequest 81 = .ok (.iload_n 3, 1) := by decide +kernel
theorem d_X_hearRequest_82 : decode b_X_hearRequest 82 = .ok (.aload_n 1, 1) := by decide +kernel
theorem d_X_hearRequest_83 : decode b_X_hearRequest 83 = .ok (.getfield 200, 3) := by decide +kernel
theorem d_X_hearRequest_86 : decode b_X_hearRequest 86 = .ok (.aload_n 1, 1) := by decide +kernel
theorem d_X_hearRequest_87 : decode b_X_hearRequest 87 = .ok (.getfield 203, 3) := by decide +kernel
theorem d_X_hearRequest_90 : decode b_X_hearRequest 90 = .ok (.invokevirtual 206, 3) := by decide +kernel
theorem d_X_hearRequest_93 : decode b_X_hearRequest 93 = .ok (.ifCond .ne 12, 3) := by decide +kernel
theorem d_X_hearRequest_96 : decode b_X_hearRequest 96 = .ok (.aload_n 0, 1) := by decide +kernel
theorem d_X_hearRequest_97 : decode b_X_hearRequest 97 = .ok (.aload_n 1, 1) := by decide +kernel
theorem d_X_hearRequest_98 : decode b_X_hearRequest 98 = .ok (.iconst 1, 1) := by decide +kernel
theorem d_X_hearRequest_99 : decode b_X_hearRequest 99 = .ok (.invokevirtual 196, 3) := by decide +kernel
theorem d_X_hearRequest_102 : decode b_X_hearRequest 102 = .ok (.goto 27, 3) := by decide +kernel
theorem d_X_hearRequest_105 : decode b_X_hearRequest 105 = .ok (.aload_n 0, 1) := by decide +kernel
theorem d_X_hearRequest_106 : decode b_X_hearRequest 106 = .ok (.aload_n 1, 1) := by decide +kernel
theorem d_X_hearRequest_107 : decode b_X_hearRequest 107 = .ok (.getfield 190, 3) := by decide +kernel
theorem d_X_hearRequest_110 : decode b_X_hearRequest 110 = .ok (.aload_n 1, 1) := by decide +kernel
theorem d_X_hearRequest_111 : decode b_X_hearRequest 111 = .ok (.getfield 193, 3) := by decide +kernel
theorem d_X_hearRequest_114 : decode b_X_hearRequest 114 = .ok (.aload_n 1, 1) := by decide +kernel
theorem d_X_hearRequest_115 : decode b_X_hearRequest 115 = .ok (.getfield 200, 3) := by decide +kernel
theorem d_X_hearRequest_118 : decode b_X_hearRequest 118 = .ok (.invokevirtual 136, 3) := by decide +kernel
theorem d_X_hearRequest_121 : decode b_X_hearRequest 121 = .ok (.aload_n 0, 1) := by decide +kernel
theorem d_X_hearRequest_122 : decode b_X_hearRequest 122 = .ok (.aload_n 1, 1) := by decide +kernel
theorem d_X_hearRequest_123 : decode b_X_hearRequest 123 = .ok (.getfield 190, 3) := by decide +kernel
theorem d_X_hearRequest_126 : decode b_X_hearRequest 126 = .ok (.invokevirtual 140, 3) := by decide +kernel
theorem d_X_hearRequest_129 : decode b_X_hearRequest 129 = .ok (.return_, 1) := by decide +kernel
theorem d_X_hearAnswer_0 : decode b_X_hearAnswer 0 = .ok (.aload_n 0, 1) := by decide +kernel
theorem d_X_hearAnswer_1 : decode b_X_hearAnswer 1 = .ok (.getfield 24, 3) := by decide +kernel
theorem d_X_hearAnswer_4 : decode b_X_hearAnswer 4 = .ok (.aload_n 1, 1) := by decide +kernel
theorem d_X_hearAnswer_5 : decode b_X_hearAnswer 5 = .ok (.getfield 190, 3) := by decide +kernel
theorem d_X_hearAnswer_8 : decode b_X_hearAnswer 8 = .ok (.aaload, 1) := by decide +kernel
theorem d_X_hearAnswer_9 : decode b_X_hearAnswer 9 = .ok (.astore_n 2, 1) := by decide +kernel
theorem d_X_hearAnswer_10 : decode b_X_hearAnswer 10 = .ok (.aload_n 2, 1) := by decide +kernel
theorem d_X_hearAnswer_11 : decode b_X_hearAnswer 11 = .ok (.dup, 1) := by decide +kernel
theorem d_X_hearAnswer_12 : decode b_X_hearAnswer 12 = .ok (.getfield 160, 3) := by decide +kernel
theorem d_X_hearAnswer_15 : decode b_X_hearAnswer 15 = .ok (.iconst 1, 1) := by decide +kernel
theorem d_X_hearAnswer_16 : decode b_X_hearAnswer 16 = .ok (.isub, 1) := by decide +kernel
theorem d_X_hearAnswer_17 : decode b_X_hearAnswer 17 = .ok (.putfield 160, 3) := by decide +kernel
theorem d_X_hearAnswer_20 : decode b_X_hearAnswer 20 = .ok (.aload_n 1, 1) := by decide +kernel
theorem d_X_hearAnswer_21 : decode b_X_hearAnswer 21 = .ok (.getfield 203, 3) := by decide +kernel
theorem d_X_hearAnswer_24 : decode b_X_hearAnswer 24 = .ok (.ifCond .ne 8, 3) := by decide +kernel
theorem d_X_hearAnswer_27 : decode b_X_hearAnswer 27 = .ok (.aload_n 2, 1) := by decide +kernel
theorem d_X_hearAnswer_28 : decode b_X_hearAnswer 28 = .ok (.iconst 0, 1) := by decide +kernel
theorem d_X_hearAnswer_29 : decode b_X_hearAnswer 29 = .ok (.putfield 170, 3) := by decide +kernel
theorem d_X_hearAnswer_32 : decode b_X_hearAnswer 32 = .ok (.aload_n 0, 1) := by decide +kernel
theorem d_X_hearAnswer_33 : decode b_X_hearAnswer 33 = .ok (.aload_n 1, 1) := by decide +kernel
theorem d_X_hearAnswer_34 : decode b_X_hearAnswer 34 = .ok (.getfield 190, 3) := by decide +kernel
theorem d_X_hearAnswer_37 : decode b_X_hearAnswer 37 = .ok (.invokevirtual 140, 3) := by decide +kernel
theorem d_X_hearAnswer_40 : decode b_X_hearAnswer 40 = .ok (.return_, 1) := by decide +kernel
theorem d_X_hearDecision_0 : decode b_X_hearDecision 0 = .ok (.aload_n 0, 1) := by decide +kernel
theorem d_X_hearDecision_1 : decode b_X_hearDecision 1 = .ok (.getfield 24, 3) := by decide +kernel
theorem d_X_hearDecision_4 : decode b_X_hearDecision 4 = .ok (.aload_n 1, 1) := by decide +kernel
theorem d_X_hearDecision_5 : decode b_X_hearDecision 5 = .ok (.getfield 190, 3) := by decide +kernel
theorem d_X_hearDecision_8 : decode b_X_hearDecision 8 = .ok (.aaload, 1) := by decide +kernel
theorem d_X_hearDecision_9 : decode b_X_hearDecision 9 = .ok (.getfield 124, 3) := by decide +kernel
theorem d_X_hearDecision_12 : decode b_X_hearDecision 12 = .ok (.aload_n 1, 1) := by decide +kernel
theorem d_X_hearDecision_13 : decode b_X_hearDecision 13 = .ok (.getfield 193, 3) := by decide +kernel
theorem d_X_hearDecision_16 : decode b_X_hearDecision 16 = .ok (.if_icmp .ne 15, 3) := by decide +kernel
theorem d_X_hearDecision_19 : decode b_X_hearDecision 19 = .ok (.aload_n 0, 1) := by decide +kernel
theorem d_X_hearDecision_20 : decode b_X_hearDecision 20 = .ok (.aload_n 1, 1) := by decide +kernel
theorem d_X_hearDecision_21 : decode b_X_hearDecision 21 = .ok (.getfield 190, 3) := by decide +kernel
theorem d_X_hearDecision_24 : decode b_X_hearDecision 24 = .ok (.aload_n 1, 1) := by decide +kernel
theorem d_X_hearDecision_25 : decode b_X_hearDecision 25 = .ok (.getfield 203, 3) := by decide +kernel
theorem d_X_hearDecision_28 : decode b_X_hearDecision 28 = .ok (.invokevirtual 173, 3) := by decide +kernel
theorem d_X_hearDecision_31 : decode b_X_hearDecision 31 = .ok (.return_, 1) := by decide +kernel
theorem d_X_deliver_0 : decode b_X_deliver 0 = .ok (.aload_n 1, 1) := by decide +kernel
theorem d_X_deliver_1 : decode b_X_deliver 1 = .ok (.getfield 176, 3) := by decide +kernel
theorem d_X_deliver_4 : decode b_X_deliver 4 = .ok (.lookupswitch 44 #[(0, 28), (1, 36)], 28) := by decide +kernel
theorem d_X_deliver_32 : decode b_X_deliver 32 = .ok (.aload_n 0, 1) := by decide +kernel
theorem d_X_deliver_33 : decode b_X_deliver 33 = .ok (.aload_n 1, 1) := by decide +kernel
theorem d_X_deliver_34 : decode b_X_deliver 34 = .ok (.invokevirtual 181, 3) := by decide +kernel
theorem d_X_deliver_37 : decode b_X_deliver 37 = .ok (.goto 16, 3) := by decide +kernel
theorem d_X_deliver_40 : decode b_X_deliver 40 = .ok (.aload_n 0, 1) := by decide +kernel
theorem d_X_deliver_41 : decode b_X_deliver 41 = .ok (.aload_n 1, 1) := by decide +kernel
theorem d_X_deliver_42 : decode b_X_deliver 42 = .ok (.invokevirtual 184, 3) := by decide +kernel
theorem d_X_deliver_45 : decode b_X_deliver 45 = .ok (.goto 8, 3) := by decide +kernel
theorem d_X_deliver_48 : decode b_X_deliver 48 = .ok (.aload_n 0, 1) := by decide +kernel
theorem d_X_deliver_49 : decode b_X_deliver 49 = .ok (.aload_n 1, 1) := by decide +kernel
theorem d_X_deliver_50 : decode b_X_deliver 50 = .ok (.invokevirtual 187, 3) := by decide +kernel
theorem d_X_deliver_53 : decode b_X_deliver 53 = .ok (.return_, 1) := by decide +kernel
theorem d_X_tick_0 : decode b_X_tick 0 = .ok (.aload_n 0, 1) := by decide +kernel
theorem d_X_tick_1 : decode b_X_tick 1 = .ok (.getfield 41, 3) := by decide +kernel
theorem d_X_tick_4 : decode b_X_tick 4 = .ok (.getfield 111, 3) := by decide +kernel
theorem d_X_tick_7 : decode b_X_tick 7 = .ok (.istore_n 1, 1) := by decide +kernel
theorem d_X_tick_8 : decode b_X_tick 8 = .ok (.iconst 0, 1) := by decide +kernel
theorem d_X_tick_9 : decode b_X_tick 9 = .ok (.istore_n 2, 1) := by decide +kernel
theorem d_X_tick_10 : decode b_X_tick 10 = .ok (.iload_n 2, 1) := by decide +kernel
theorem d_X_tick_11 : decode b_X_tick 11 = .ok (.iload_n 1, 1) := by decide +kernel
theorem d_X_tick_12 : decode b_X_tick 12 = .ok (.if_icmp .ge 27, 3) := by decide +kernel
theorem d_X_tick_15 : decode b_X_tick 15 = .ok (.aload_n 0, 1) := by decide +kernel
theorem d_X_tick_16 : decode b_X_tick 16 = .ok (.aload_n 0, 1) := by decide +kernel
theorem d_X_tick_17 : decode b_X_tick 17 = .ok (.getfield 41, 3) := by decide +kernel
theorem d_X_tick_20 : decode b_X_tick 20 = .ok (.invokevirtual 112, 3) := by decide +kernel
theorem d_X_tick_23 : decode b_X_tick 23 = .ok (.invokevirtual 116, 3) := by decide +kernel
theorem d_X_tick_26 : decode b_X_tick 26 = .ok (.aload_n 0, 1) := by decide +kernel
theorem d_X_tick_27 : decode b_X_tick 27 = .ok (.getfield 41, 3) := by decide +kernel
theorem d_X_tick_30 : decode b_X_tick 30 = .ok (.invokevirtual 120, 3) := by decide +kernel
theorem d_X_tick_33 : decode b_X_tick 33 = .ok (.iinc 2 1, 3) := by decide +kernel
theorem d_X_tick_36 : decode b_X_tick 36 = .ok (.goto (-26), 3) := by decide +kernel
theorem d_X_tick_39 : decode b_X_tick 39 = .ok (.iload_n 1, 1) := by decide +kernel
theorem d_X_tick_40 : decode b_X_tick 40 = .ok (.ireturn, 1) := by decide +kernel
theorem d_X_value_0 : decode b_X_value 0 = .ok (.aload_n 0, 1) := by decide +kernel
theorem d_X_value_1 : decode b_X_value 1 = .ok (.iload_n 1, 1) := by decide +kernel
theorem d_X_value_2 : decode b_X_value 2 = .ok (.invokevirtual 53, 3) := by decide +kernel
theorem d_X_value_5 : decode b_X_value 5 = .ok (.ifCond .eq 18, 3) := by decide +kernel
theorem d_X_value_8 : decode b_X_value 8 = .ok (.aload_n 0, 1) := by decide +kernel
theorem d_X_value_9 : decode b_X_value 9 = .ok (.getfield 24, 3) := by decide +kernel
theorem d_X_value_12 : decode b_X_value 12 = .ok (.iload_n 1, 1) := by decide +kernel
theorem d_X_value_13 : decode b_X_value 13 = .ok (.aaload, 1) := by decide +kernel
theorem d_X_value_14 : decode b_X_value 14 = .ok (.getfield 65, 3) := by decide +kernel
theorem d_X_value_17 : decode b_X_value 17 = .ok (.getfield 69, 3) := by decide +kernel
theorem d_X_value_20 : decode b_X_value 20 = .ok (.goto 4, 3) := by decide +kernel
theorem d_X_value_23 : decode b_X_value 23 = .ok (.iconst 0, 1) := by decide +kernel
theorem d_X_value_24 : decode b_X_value 24 = .ok (.ireturn, 1) := by decide +kernel
theorem d_X_kept_0 : decode b_X_kept 0 = .ok (.aload_n 0, 1) := by decide +kernel
theorem d_X_kept_1 : decode b_X_kept 1 = .ok (.iload_n 1, 1) := by decide +kernel
theorem d_X_kept_2 : decode b_X_kept 2 = .ok (.invokevirtual 53, 3) := by decide +kernel
theorem d_X_kept_5 : decode b_X_kept 5 = .ok (.ifCond .eq 18, 3) := by decide +kernel
theorem d_X_kept_8 : decode b_X_kept 8 = .ok (.aload_n 0, 1) := by decide +kernel
theorem d_X_kept_9 : decode b_X_kept 9 = .ok (.getfield 24, 3) := by decide +kernel
theorem d_X_kept_12 : decode b_X_kept 12 = .ok (.iload_n 1, 1) := by decide +kernel
theorem d_X_kept_13 : decode b_X_kept 13 = .ok (.aaload, 1) := by decide +kernel
theorem d_X_kept_14 : decode b_X_kept 14 = .ok (.getfield 121, 3) := by decide +kernel
theorem d_X_kept_17 : decode b_X_kept 17 = .ok (.getfield 69, 3) := by decide +kernel
theorem d_X_kept_20 : decode b_X_kept 20 = .ok (.goto 4, 3) := by decide +kernel
theorem d_X_kept_23 : decode b_X_kept 23 = .ok (.iconst 0, 1) := by decide +kernel
theorem d_X_kept_24 : decode b_X_kept 24 = .ok (.ireturn, 1) := by decide +kernel
theorem d_X_label_0 : decode b_X_label 0 = .ok (.aload_n 0, 1) := by decide +kernel
theorem d_X_label_1 : decode b_X_label 1 = .ok (.iload_n 1, 1) := by decide +kernel
theorem d_X_label_2 : decode b_X_label 2 = .ok (.iload_n 2, 1) := by decide +kernel
theorem d_X_label_3 : decode b_X_label 3 = .ok (.invokevirtual 74, 3) := by decide +kernel
theorem d_X_label_6 : decode b_X_label 6 = .ok (.ifCond .ne 5, 3) := by decide +kernel
theorem d_X_label_9 : decode b_X_label 9 = .ok (.iconst (-1), 1) := by decide +kernel
theorem d_X_label_10 : decode b_X_label 10 = .ok (.ireturn, 1) := by decide +kernel
theorem d_X_label_11 : decode b_X_label 11 = .ok (.iload_n 3, 1) := by decide +kernel
theorem d_X_label_12 : decode b_X_label 12 = .ok (.tableswitch 92 0 3 #[32, 47, 62, 77], 32) := by decide +kernel
theorem d_X_label_44 : decode b_X_label 44 = .ok (.aload_n 0, 1) := by decide +kernel
theorem d_X_label_45 : decode b_X_label 45 = .ok (.getfield 24, 3) := by decide +kernel
theorem d_X_label_48 : decode b_X_label 48 = .ok (.iload_n 1, 1) := by decide +kernel
theorem d_X_label_49 : decode b_X_label 49 = .ok (.aaload, 1) := by decide +kernel
theorem d_X_label_50 : decode b_X_label 50 = .ok (.getfield 65, 3) := by decide +kernel
theorem d_X_label_53 : decode b_X_label 53 = .ok (.getfield 88, 3) := by decide +kernel
theorem d_X_label_56 : decode b_X_label 56 = .ok (.iload_n 2, 1) := by decide +kernel
theorem d_X_label_57 : decode b_X_label 57 = .ok (.iaload, 1) := by decide +kernel
theorem d_X_label_58 : decode b_X_label 58 = .ok (.ireturn, 1) := by decide +kernel
theorem d_X_label_59 : decode b_X_label 59 = .ok (.aload_n 0, 1) := by decide +kernel
theorem d_X_label_60 : decode b_X_label 60 = .ok (.getfield 24, 3) := by decide +kernel
theorem d_X_label_63 : decode b_X_label 63 = .ok (.iload_n 1, 1) := by decide +kernel
theorem d_X_label_64 : decode b_X_label 64 = .ok (.aaload, 1) := by decide +kernel
theorem d_X_label_65 : decode b_X_label 65 = .ok (.getfield 65, 3) := by decide +kernel
theorem d_X_label_68 : decode b_X_label 68 = .ok (.getfield 98, 3) := by decide +kernel
theorem d_X_label_71 : decode b_X_label 71 = .ok (.iload_n 2, 1) := by decide +kernel
theorem d_X_label_72 : decode b_X_label 72 = .ok (.iaload, 1) := by decide +kernel
theorem d_X_label_73 : decode b_X_label 73 = .ok (.ireturn, 1) := by decide +kernel
theorem d_X_label_74 : decode b_X_label 74 = .ok (.aload_n 0, 1) := by decide +kernel
theorem d_X_label_75 : decode b_X_label 75 = .ok (.getfield 24, 3) := by decide +kernel
theorem d_X_label_78 : decode b_X_label 78 = .ok (.iload_n 1, 1) := by decide +kernel
theorem d_X_label_79 : decode b_X_label 79 = .ok (.aaload, 1) := by decide +kernel
theorem d_X_label_80 : decode b_X_label 80 = .ok (.getfield 121, 3) := by decide +kernel
theorem d_X_label_83 : decode b_X_label 83 = .ok (.getfield 88, 3) := by decide +kernel
theorem d_X_label_86 : decode b_X_label 86 = .ok (.iload_n 2, 1) := by decide +kernel
theorem d_X_label_87 : decode b_X_label 87 = .ok (.iaload, 1) := by decide +kernel
theorem d_X_label_88 : decode b_X_label 88 = .ok (.ireturn, 1) := by decide +kernel
theorem d_X_label_89 : decode b_X_label 89 = .ok (.aload_n 0, 1) := by decide +kernel
theorem d_X_label_90 : decode b_X_label 90 = .ok (.getfield 24, 3) := by decide +kernel
theorem d_X_label_93 : decode b_X_label 93 = .ok (.iload_n 1, 1) := by decide +kernel
theorem d_X_label_94 : decode b_X_label 94 = .ok (.aaload, 1) := by decide +kernel
theorem d_X_label_95 : decode b_X_label 95 = .ok (.getfield 121, 3) := by decide +kernel
theorem d_X_label_98 : decode b_X_label 98 = .ok (.getfield 98, 3) := by decide +kernel
theorem d_X_label_101 : decode b_X_label 101 = .ok (.iload_n 2, 1) := by decide +kernel
theorem d_X_label_102 : decode b_X_label 102 = .ok (.iaload, 1) := by decide +kernel
theorem d_X_label_103 : decode b_X_label 103 = .ok (.ireturn, 1) := by decide +kernel
theorem d_X_label_104 : decode b_X_label 104 = .ok (.iconst (-1), 1) := by decide +kernel
theorem d_X_label_105 : decode b_X_label 105 = .ok (.ireturn, 1) := by decide +kernel
theorem d_X_waiting_0 : decode b_X_waiting 0 = .ok (.aload_n 0, 1) := by decide +kernel
theorem d_X_waiting_1 : decode b_X_waiting 1 = .ok (.iload_n 1, 1) := by decide +kernel
theorem d_X_waiting_2 : decode b_X_waiting 2 = .ok (.iload_n 2, 1) := by decide +kernel
theorem d_X_waiting_3 : decode b_X_waiting 3 = .ok (.invokevirtual 74, 3) := by decide +kernel
theorem d_X_waiting_6 : decode b_X_waiting 6 = .ok (.ifCond .eq 15, 3) := by decide +kernel
theorem d_X_waiting_9 : decode b_X_waiting 9 = .ok (.aload_n 0, 1) := by decide +kernel
theorem d_X_waiting_10 : decode b_X_waiting 10 = .ok (.iload_n 1, 1) := by decide +kernel
theorem d_X_waiting_11 : decode b_X_waiting 11 = .ok (.iload_n 2, 1) := by decide +kernel
theorem d_X_waiting_12 : decode b_X_waiting 12 = .ok (.invokevirtual 81, 3) := by decide +kernel
theorem d_X_waiting_15 : decode b_X_waiting 15 = .ok (.getfield 85, 3) := by decide +kernel
theorem d_X_waiting_18 : decode b_X_waiting 18 = .ok (.goto 4, 3) := by decide +kernel
theorem d_X_waiting_21 : decode b_X_waiting 21 = .ok (.iconst (-1), 1) := by decide +kernel
theorem d_X_waiting_22 : decode b_X_waiting 22 = .ok (.ireturn, 1) := by decide +kernel
theorem d_X_down_0 : decode b_X_down 0 = .ok (.aload_n 0, 1) := by decide +kernel
theorem d_X_down_1 : decode b_X_down 1 = .ok (.iload_n 1, 1) := by decide +kernel
theorem d_X_down_2 : decode b_X_down 2 = .ok (.invokevirtual 53, 3) := by decide +kernel
theorem d_X_down_5 : decode b_X_down 5 = .ok (.ifCond .eq 19, 3) := by decide +kernel
theorem d_X_down_8 : decode b_X_down 8 = .ok (.aload_n 0, 1) := by decide +kernel
theorem d_X_down_9 : decode b_X_down 9 = .ok (.getfield 24, 3) := by decide +kernel
theorem d_X_down_12 : decode b_X_down 12 = .ok (.iload_n 1, 1) := by decide +kernel
theorem d_X_down_13 : decode b_X_down 13 = .ok (.aaload, 1) := by decide +kernel
theorem d_X_down_14 : decode b_X_down 14 = .ok (.getfield 57, 3) := by decide +kernel
theorem d_X_down_17 : decode b_X_down 17 = .ok (.ifCond .eq 7, 3) := by decide +kernel
theorem d_X_down_20 : decode b_X_down 20 = .ok (.iconst 1, 1) := by decide +kernel
theorem d_X_down_21 : decode b_X_down 21 = .ok (.goto 4, 3) := by decide +kernel
theorem d_X_down_24 : decode b_X_down 24 = .ok (.iconst 0, 1) := by decide +kernel
theorem d_X_down_25 : decode b_X_down 25 = .ok (.ireturn, 1) := by decide +kernel
theorem d_X_instance_0 : decode b_X_instance 0 = .ok (.aload_n 0, 1) := by decide +kernel
theorem d_X_instance_1 : decode b_X_instance 1 = .ok (.iload_n 1, 1) := by decide +kernel
theorem d_X_instance_2 : decode b_X_instance 2 = .ok (.invokevirtual 53, 3) := by decide +kernel
theorem d_X_instance_5 : decode b_X_instance 5 = .ok (.ifCond .eq 15, 3) := by decide +kernel
theorem d_X_instance_8 : decode b_X_instance 8 = .ok (.aload_n 0, 1) := by decide +kernel
theorem d_X_instance_9 : decode b_X_instance 9 = .ok (.getfield 24, 3) := by decide +kernel
theorem d_X_instance_12 : decode b_X_instance 12 = .ok (.iload_n 1, 1) := by decide +kernel
theorem d_X_instance_13 : decode b_X_instance 13 = .ok (.aaload, 1) := by decide +kernel
theorem d_X_instance_14 : decode b_X_instance 14 = .ok (.getfield 124, 3) := by decide +kernel
theorem d_X_instance_17 : decode b_X_instance 17 = .ok (.goto 4, 3) := by decide +kernel
theorem d_X_instance_20 : decode b_X_instance 20 = .ok (.iconst (-1), 1) := by decide +kernel
theorem d_X_instance_21 : decode b_X_instance 21 = .ok (.ireturn, 1) := by decide +kernel
theorem d_X_decision_0 : decode b_X_decision 0 = .ok (.iload_n 1, 1) := by decide +kernel
theorem d_X_decision_1 : decode b_X_decision 1 = .ok (.iconst 1, 1) := by decide +kernel
theorem d_X_decision_2 : decode b_X_decision 2 = .ok (.if_icmp .lt 20, 3) := by decide +kernel
theorem d_X_decision_5 : decode b_X_decision 5 = .ok (.iload_n 1, 1) := by decide +kernel
theorem d_X_decision_6 : decode b_X_decision 6 = .ok (.aload_n 0, 1) := by decide +kernel
theorem d_X_decision_7 : decode b_X_decision 7 = .ok (.getfield 127, 3) := by decide +kernel
theorem d_X_decision_10 : decode b_X_decision 10 = .ok (.if_icmp .gt 12, 3) := by decide +kernel
theorem d_X_decision_13 : decode b_X_decision 13 = .ok (.aload_n 0, 1) := by decide +kernel
theorem d_X_decision_14 : decode b_X_decision 14 = .ok (.getfield 49, 3) := by decide +kernel
theorem d_X_decision_17 : decode b_X_decision 17 = .ok (.iload_n 1, 1) := by decide +kernel
theorem d_X_decision_18 : decode b_X_decision 18 = .ok (.iaload, 1) := by decide +kernel
theorem d_X_decision_19 : decode b_X_decision 19 = .ok (.goto 4, 3) := by decide +kernel
theorem d_X_decision_22 : decode b_X_decision 22 = .ok (.iconst (-1), 1) := by decide +kernel
theorem d_X_decision_23 : decode b_X_decision 23 = .ok (.ireturn, 1) := by decide +kernel
theorem d_X_notes_0 : decode b_X_notes 0 = .ok (.aload_n 0, 1) := by decide +kernel
theorem d_X_notes_1 : decode b_X_notes 1 = .ok (.getfield 41, 3) := by decide +kernel
theorem d_X_notes_4 : decode b_X_notes 4 = .ok (.getfield 111, 3) := by decide +kernel
theorem d_X_notes_7 : decode b_X_notes 7 = .ok (.ireturn, 1) := by decide +kernel
theorem d_X_times_0 : decode b_X_times 0 = .ok (.aload_n 0, 1) := by decide +kernel
theorem d_X_times_1 : decode b_X_times 1 = .ok (.iload_n 1, 1) := by decide +kernel
theorem d_X_times_2 : decode b_X_times 2 = .ok (.invokevirtual 53, 3) := by decide +kernel
theorem d_X_times_5 : decode b_X_times 5 = .ok (.ifCond .ne 5, 3) := by decide +kernel
theorem d_X_times_8 : decode b_X_times 8 = .ok (.iconst (-1), 1) := by decide +kernel
theorem d_X_times_9 : decode b_X_times 9 = .ok (.ireturn, 1) := by decide +kernel
theorem d_X_times_10 : decode b_X_times 10 = .ok (.iload_n 2, 1) := by decide +kernel
theorem d_X_times_11 : decode b_X_times 11 = .ok (.lookupswitch 45 #[(0, 25), (1, 35)], 25) := by decide +kernel
theorem d_X_times_36 : decode b_X_times 36 = .ok (.aload_n 0, 1) := by decide +kernel
theorem d_X_times_37 : decode b_X_times 37 = .ok (.getfield 24, 3) := by decide +kernel
theorem d_X_times_40 : decode b_X_times 40 = .ok (.iload_n 1, 1) := by decide +kernel
theorem d_X_times_41 : decode b_X_times 41 = .ok (.aaload, 1) := by decide +kernel
theorem d_X_times_42 : decode b_X_times 42 = .ok (.getfield 130, 3) := by decide +kernel
theorem d_X_times_45 : decode b_X_times 45 = .ok (.ireturn, 1) := by decide +kernel
theorem d_X_times_46 : decode b_X_times 46 = .ok (.aload_n 0, 1) := by decide +kernel
theorem d_X_times_47 : decode b_X_times 47 = .ok (.getfield 24, 3) := by decide +kernel
theorem d_X_times_50 : decode b_X_times 50 = .ok (.iload_n 1, 1) := by decide +kernel
theorem d_X_times_51 : decode b_X_times 51 = .ok (.aaload, 1) := by decide +kernel
theorem d_X_times_52 : decode b_X_times 52 = .ok (.getfield 133, 3) := by decide +kernel
theorem d_X_times_55 : decode b_X_times 55 = .ok (.ireturn, 1) := by decide +kernel
theorem d_X_times_56 : decode b_X_times 56 = .ok (.iconst (-1), 1) := by decide +kernel
theorem d_X_times_57 : decode b_X_times 57 = .ok (.ireturn, 1) := by decide +kernel
