/-! What each instruction is. -/
theorem jd_Mo_need_3 : decode jq_Mo_need.2.1 3 = .ok (.getfield 119, 3) := by decide +kernel
theorem jd_Mo_need_6 : decode jq_Mo_need.2.1 6 = .ok (.iconst 1, 1) := by decide +kernel
theorem jd_Mo_need_7 : decode jq_Mo_need.2.1 7 = .ok (.isub, 1) := by decide +kernel
theorem jd_Mo_need_8 : decode jq_Mo_need.2.1 8 = .ok (.invokestatic 108, 3) := by decide +kernel
theorem jd_Mo_need_11 : decode jq_Mo_need.2.1 11 = .ok (.ifCond .eq 30, 3) := by decide +kernel
theorem jd_Mo_need_14 : decode jq_Mo_need.2.1 14 = .ok (.iload_n 2, 1) := by decide +kernel
theorem jd_Mo_need_15 : decode jq_Mo_need.2.1 15 = .ok (.iload_n 3, 1) := by decide +kernel
theorem jd_Mo_need_16 : decode jq_Mo_need.2.1 16 = .ok (.iload 4, 2) := by decide +kernel
theorem jd_Mo_need_18 : decode jq_Mo_need.2.1 18 = .ok (.invokestatic 122, 3) := by decide +kernel
theorem jd_Mo_need_21 : decode jq_Mo_need.2.1 21 = .ok (.ifCond .eq 20, 3) := by decide +kernel
theorem jd_Mo_need_24 : decode jq_Mo_need.2.1 24 = .ok (.aload_n 0, 1) := by decide +kernel
theorem jd_Mo_need_25 : decode jq_Mo_need.2.1 25 = .ok (.getfield 26, 3) := by decide +kernel
theorem jd_Mo_need_28 : decode jq_Mo_need.2.1 28 = .ok (.iload_n 1, 1) := by decide +kernel
theorem jd_Mo_need_29 : decode jq_Mo_need.2.1 29 = .ok (.iaload, 1) := by decide +kernel
theorem jd_Mo_need_30 : decode jq_Mo_need.2.1 30 = .ok (.iconst 3, 1) := by decide +kernel
theorem jd_Mo_need_31 : decode jq_Mo_need.2.1 31 = .ok (.if_icmp .eq 10, 3) := by decide +kernel
theorem jd_Mo_need_34 : decode jq_Mo_need.2.1 34 = .ok (.aload_n 0, 1) := by decide +kernel
theorem jd_Mo_need_35 : decode jq_Mo_need.2.1 35 = .ok (.getfield 116, 3) := by decide +kernel
theorem jd_Mo_need_38 : decode jq_Mo_need.2.1 38 = .ok (.ifCond .le 5, 3) := by decide +kernel
theorem jd_Mo_need_41 : decode jq_Mo_need.2.1 41 = .ok (.iconst 0, 1) := by decide +kernel
theorem jd_Mo_need_42 : decode jq_Mo_need.2.1 42 = .ok (.ireturn, 1) := by decide +kernel
theorem jd_Mo_need_43 : decode jq_Mo_need.2.1 43 = .ok (.iconst 3, 1) := by decide +kernel
theorem jd_Mo_need_44 : decode jq_Mo_need.2.1 44 = .ok (.iload_n 1, 1) := by decide +kernel
theorem jd_Mo_need_45 : decode jq_Mo_need.2.1 45 = .ok (.imul, 1) := by decide +kernel
theorem jd_Mo_need_46 : decode jq_Mo_need.2.1 46 = .ok (.aload_n 0, 1) := by decide +kernel
theorem jd_Mo_need_47 : decode jq_Mo_need.2.1 47 = .ok (.getfield 26, 3) := by decide +kernel
theorem jd_Mo_need_50 : decode jq_Mo_need.2.1 50 = .ok (.iload_n 1, 1) := by decide +kernel
theorem jd_Mo_need_51 : decode jq_Mo_need.2.1 51 = .ok (.iaload, 1) := by decide +kernel
theorem jd_Mo_need_52 : decode jq_Mo_need.2.1 52 = .ok (.iadd, 1) := by decide +kernel
theorem jd_Mo_need_53 : decode jq_Mo_need.2.1 53 = .ok (.istore 5, 2) := by decide +kernel
theorem jd_Mo_need_55 : decode jq_Mo_need.2.1 55 = .ok (.aload_n 0, 1) := by decide +kernel
theorem jd_Mo_need_56 : decode jq_Mo_need.2.1 56 = .ok (.getfield 29, 3) := by decide +kernel
theorem jd_Mo_need_59 : decode jq_Mo_need.2.1 59 = .ok (.iload 5, 2) := by decide +kernel
theorem jd_Mo_need_61 : decode jq_Mo_need.2.1 61 = .ok (.iload_n 2, 1) := by decide +kernel
theorem jd_Mo_need_62 : decode jq_Mo_need.2.1 62 = .ok (.iastore, 1) := by decide +kernel
theorem jd_Mo_need_63 : decode jq_Mo_need.2.1 63 = .ok (.aload_n 0, 1) := by decide +kernel
theorem jd_Mo_need_64 : decode jq_Mo_need.2.1 64 = .ok (.getfield 32, 3) := by decide +kernel
theorem jd_Mo_need_67 : decode jq_Mo_need.2.1 67 = .ok (.iload 5, 2) := by decide +kernel
theorem jd_Mo_need_69 : decode jq_Mo_need.2.1 69 = .ok (.iload_n 3, 1) := by decide +kernel
theorem jd_Mo_need_70 : decode jq_Mo_need.2.1 70 = .ok (.iastore, 1) := by decide +kernel
theorem jd_Mo_need_71 : decode jq_Mo_need.2.1 71 = .ok (.aload_n 0, 1) := by decide +kernel
theorem jd_Mo_need_72 : decode jq_Mo_need.2.1 72 = .ok (.getfield 35, 3) := by decide +kernel
theorem jd_Mo_need_75 : decode jq_Mo_need.2.1 75 = .ok (.iload 5, 2) := by decide +kernel
theorem jd_Mo_need_77 : decode jq_Mo_need.2.1 77 = .ok (.iload 4, 2) := by decide +kernel
theorem jd_Mo_need_79 : decode jq_Mo_need.2.1 79 = .ok (.iastore, 1) := by decide +kernel
theorem jd_Mo_need_80 : decode jq_Mo_need.2.1 80 = .ok (.aload_n 0, 1) := by decide +kernel
theorem jd_Mo_need_81 : decode jq_Mo_need.2.1 81 = .ok (.getfield 26, 3) := by decide +kernel
theorem jd_Mo_need_84 : decode jq_Mo_need.2.1 84 = .ok (.iload_n 1, 1) := by decide +kernel
theorem jd_Mo_need_85 : decode jq_Mo_need.2.1 85 = .ok (.dup2, 1) := by decide +kernel
theorem jd_Mo_need_86 : decode jq_Mo_need.2.1 86 = .ok (.iaload, 1) := by decide +kernel
theorem jd_Mo_need_87 : decode jq_Mo_need.2.1 87 = .ok (.iconst 1, 1) := by decide +kernel
theorem jd_Mo_need_88 : decode jq_Mo_need.2.1 88 = .ok (.iadd, 1) := by decide +kernel
theorem jd_Mo_need_89 : decode jq_Mo_need.2.1 89 = .ok (.iastore, 1) := by decide +kernel
theorem jd_Mo_need_90 : decode jq_Mo_need.2.1 90 = .ok (.iconst 1, 1) := by decide +kernel
theorem jd_Mo_need_91 : decode jq_Mo_need.2.1 91 = .ok (.ireturn, 1) := by decide +kernel
theorem jd_Mo_recorded_0 : decode jq_Mo_recorded.2.1 0 = .ok (.aload_n 0, 1) := by decide +kernel
theorem jd_Mo_recorded_1 : decode jq_Mo_recorded.2.1 1 = .ok (.iload_n 1, 1) := by decide +kernel
theorem jd_Mo_recorded_2 : decode jq_Mo_recorded.2.1 2 = .ok (.invokevirtual 230, 3) := by decide +kernel
theorem jd_Mo_recorded_5 : decode jq_Mo_recorded.2.1 5 = .ok (.ifCond .eq 21, 3) := by decide +kernel
theorem jd_Mo_recorded_8 : decode jq_Mo_recorded.2.1 8 = .ok (.aload_n 0, 1) := by decide +kernel
theorem jd_Mo_recorded_9 : decode jq_Mo_recorded.2.1 9 = .ok (.getfield 68, 3) := by decide +kernel
theorem jd_Mo_recorded_12 : decode jq_Mo_recorded.2.1 12 = .ok (.iload_n 1, 1) := by decide +kernel
theorem jd_Mo_recorded_13 : decode jq_Mo_recorded.2.1 13 = .ok (.baload, 1) := by decide +kernel
theorem jd_Mo_recorded_14 : decode jq_Mo_recorded.2.1 14 = .ok (.ifCond .eq 12, 3) := by decide +kernel
theorem jd_Mo_recorded_17 : decode jq_Mo_recorded.2.1 17 = .ok (.iload_n 2, 1) := by decide +kernel
theorem jd_Mo_recorded_18 : decode jq_Mo_recorded.2.1 18 = .ok (.iconst 0, 1) := by decide +kernel
theorem jd_Mo_recorded_19 : decode jq_Mo_recorded.2.1 19 = .ok (.iconst 1, 1) := by decide +kernel
theorem jd_Mo_recorded_20 : decode jq_Mo_recorded.2.1 20 = .ok (.invokestatic 108, 3) := by decide +kernel
theorem jd_Mo_recorded_23 : decode jq_Mo_recorded.2.1 23 = .ok (.ifCond .ne 7, 3) := by decide +kernel
theorem jd_Mo_recorded_26 : decode jq_Mo_recorded.2.1 26 = .ok (.ldc2_w 233, 3) := by decide +kernel
theorem jd_Mo_recorded_29 : decode jq_Mo_recorded.2.1 29 = .ok (.lreturn, 1) := by decide +kernel
theorem jd_Mo_recorded_30 : decode jq_Mo_recorded.2.1 30 = .ok (.iload_n 2, 1) := by decide +kernel
theorem jd_Mo_recorded_31 : decode jq_Mo_recorded.2.1 31 = .ok (.ifCond .ne 13, 3) := by decide +kernel
theorem jd_Mo_recorded_34 : decode jq_Mo_recorded.2.1 34 = .ok (.aload_n 0, 1) := by decide +kernel
theorem jd_Mo_recorded_35 : decode jq_Mo_recorded.2.1 35 = .ok (.getfield 80, 3) := by decide +kernel
theorem jd_Mo_recorded_38 : decode jq_Mo_recorded.2.1 38 = .ok (.iload_n 1, 1) := by decide +kernel
theorem jd_Mo_recorded_39 : decode jq_Mo_recorded.2.1 39 = .ok (.iaload, 1) := by decide +kernel
theorem jd_Mo_recorded_40 : decode jq_Mo_recorded.2.1 40 = .ok (.i2l, 1) := by decide +kernel
theorem jd_Mo_recorded_41 : decode jq_Mo_recorded.2.1 41 = .ok (.goto 10, 3) := by decide +kernel
theorem jd_Mo_recorded_44 : decode jq_Mo_recorded.2.1 44 = .ok (.aload_n 0, 1) := by decide +kernel
theorem jd_Mo_recorded_45 : decode jq_Mo_recorded.2.1 45 = .ok (.getfield 83, 3) := by decide +kernel
theorem jd_Mo_recorded_48 : decode jq_Mo_recorded.2.1 48 = .ok (.iload_n 1, 1) := by decide +kernel
theorem jd_Mo_recorded_49 : decode jq_Mo_recorded.2.1 49 = .ok (.iaload, 1) := by decide +kernel
theorem jd_Mo_recorded_50 : decode jq_Mo_recorded.2.1 50 = .ok (.i2l, 1) := by decide +kernel
theorem jd_Mo_recorded_51 : decode jq_Mo_recorded.2.1 51 = .ok (.lreturn, 1) := by decide +kernel
theorem jd_Mo_isAbove_0 : decode jq_Mo_isAbove.2.1 0 = .ok (.aload_n 0, 1) := by decide +kernel
theorem jd_Mo_isAbove_1 : decode jq_Mo_isAbove.2.1 1 = .ok (.getfield 53, 3) := by decide +kernel
theorem jd_Mo_isAbove_4 : decode jq_Mo_isAbove.2.1 4 = .ok (.iload_n 2, 1) := by decide +kernel
theorem jd_Mo_isAbove_5 : decode jq_Mo_isAbove.2.1 5 = .ok (.iaload, 1) := by decide +kernel
theorem jd_Mo_isAbove_6 : decode jq_Mo_isAbove.2.1 6 = .ok (.istore_n 3, 1) := by decide +kernel
theorem jd_Mo_isAbove_7 : decode jq_Mo_isAbove.2.1 7 = .ok (.iload_n 3, 1) := by decide +kernel
theorem jd_Mo_isAbove_8 : decode jq_Mo_isAbove.2.1 8 = .ok (.ifCond .lt 22, 3) := by decide +kernel
theorem jd_Mo_isAbove_11 : decode jq_Mo_isAbove.2.1 11 = .ok (.iload_n 3, 1) := by decide +kernel
theorem jd_Mo_isAbove_12 : decode jq_Mo_isAbove.2.1 12 = .ok (.iload_n 1, 1) := by decide +kernel
theorem jd_Mo_isAbove_13 : decode jq_Mo_isAbove.2.1 13 = .ok (.if_icmp .eq 13, 3) := by decide +kernel
theorem jd_Mo_isAbove_16 : decode jq_Mo_isAbove.2.1 16 = .ok (.aload_n 0, 1) := by decide +kernel
theorem jd_Mo_isAbove_17 : decode jq_Mo_isAbove.2.1 17 = .ok (.getfield 53, 3) := by decide +kernel
theorem jd_Mo_isAbove_20 : decode jq_Mo_isAbove.2.1 20 = .ok (.iload_n 3, 1) := by decide +kernel
theorem jd_Mo_isAbove_21 : decode jq_Mo_isAbove.2.1 21 = .ok (.iaload, 1) := by decide +kernel
theorem jd_Mo_isAbove_22 : decode jq_Mo_isAbove.2.1 22 = .ok (.iload_n 1, 1) := by decide +kernel
theorem jd_Mo_isAbove_23 : decode jq_Mo_isAbove.2.1 23 = .ok (.if_icmp .ne 7, 3) := by decide +kernel
theorem jd_Mo_isAbove_26 : decode jq_Mo_isAbove.2.1 26 = .ok (.iconst 1, 1) := by decide +kernel
theorem jd_Mo_isAbove_27 : decode jq_Mo_isAbove.2.1 27 = .ok (.goto 4, 3) := by decide +kernel
theorem jd_Mo_isAbove_30 : decode jq_Mo_isAbove.2.1 30 = .ok (.iconst 0, 1) := by decide +kernel
theorem jd_Mo_isAbove_31 : decode jq_Mo_isAbove.2.1 31 = .ok (.ireturn, 1) := by decide +kernel
theorem jd_Mo_displace_0 : decode jq_Mo_displace.2.1 0 = .ok (.iconst (-1), 1) := by decide +kernel
theorem jd_Mo_displace_1 : decode jq_Mo_displace.2.1 1 = .ok (.istore_n 2, 1) := by decide +kernel
theorem jd_Mo_displace_2 : decode jq_Mo_displace.2.1 2 = .ok (.iconst 0, 1) := by decide +kernel
theorem jd_Mo_displace_3 : decode jq_Mo_displace.2.1 3 = .ok (.istore_n 3, 1) := by decide +kernel
theorem jd_Mo_displace_4 : decode jq_Mo_displace.2.1 4 = .ok (.iload_n 3, 1) := by decide +kernel
theorem jd_Mo_displace_5 : decode jq_Mo_displace.2.1 5 = .ok (.aload_n 0, 1) := by decide +kernel
theorem jd_Mo_displace_6 : decode jq_Mo_displace.2.1 6 = .ok (.getfield 169, 3) := by decide +kernel
theorem jd_Mo_displace_9 : decode jq_Mo_displace.2.1 9 = .ok (.if_icmp .ge 60, 3) := by decide +kernel
theorem jd_Mo_displace_12 : decode jq_Mo_displace.2.1 12 = .ok (.aload_n 0, 1) := by decide +kernel
theorem jd_Mo_displace_13 : decode jq_Mo_displace.2.1 13 = .ok (.getfield 56, 3) := by decide +kernel
theorem jd_Mo_displace_16 : decode jq_Mo_displace.2.1 16 = .ok (.iload_n 3, 1) := by decide +kernel
theorem jd_Mo_displace_17 : decode jq_Mo_displace.2.1 17 = .ok (.baload, 1) := by decide +kernel
theorem jd_Mo_displace_18 : decode jq_Mo_displace.2.1 18 = .ok (.ifCond .eq 16, 3) := by decide +kernel
theorem jd_Mo_displace_21 : decode jq_Mo_displace.2.1 21 = .ok (.aload_n 0, 1) := by decide +kernel
theorem jd_Mo_displace_22 : decode jq_Mo_displace.2.1 22 = .ok (.iload_n 3, 1) := by decide +kernel
theorem jd_Mo_displace_23 : decode jq_Mo_displace.2.1 23 = .ok (.iload_n 1, 1) := by decide +kernel
theorem jd_Mo_displace_24 : decode jq_Mo_displace.2.1 24 = .ok (.invokevirtual 208, 3) := by decide +kernel
theorem jd_Mo_displace_27 : decode jq_Mo_displace.2.1 27 = .ok (.ifCond .ne 7, 3) := by decide +kernel
theorem jd_Mo_displace_30 : decode jq_Mo_displace.2.1 30 = .ok (.iconst 1, 1) := by decide +kernel
theorem jd_Mo_displace_31 : decode jq_Mo_displace.2.1 31 = .ok (.goto 4, 3) := by decide +kernel
theorem jd_Mo_displace_34 : decode jq_Mo_displace.2.1 34 = .ok (.iconst 0, 1) := by decide +kernel
theorem jd_Mo_displace_35 : decode jq_Mo_displace.2.1 35 = .ok (.istore 4, 2) := by decide +kernel
theorem jd_Mo_displace_37 : decode jq_Mo_displace.2.1 37 = .ok (.iload 4, 2) := by decide +kernel
theorem jd_Mo_displace_39 : decode jq_Mo_displace.2.1 39 = .ok (.ifCond .eq 24, 3) := by decide +kernel
theorem jd_Mo_displace_42 : decode jq_Mo_displace.2.1 42 = .ok (.iload_n 2, 1) := by decide +kernel
theorem jd_Mo_displace_43 : decode jq_Mo_displace.2.1 43 = .ok (.ifCond .lt 18, 3) := by decide +kernel
theorem jd_Mo_displace_46 : decode jq_Mo_displace.2.1 46 = .ok (.aload_n 0, 1) := by decide +kernel
theorem jd_Mo_displace_47 : decode jq_Mo_displace.2.1 47 = .ok (.getfield 59, 3) := by decide +kernel
theorem jd_Mo_displace_50 : decode jq_Mo_displace.2.1 50 = .ok (.iload_n 3, 1) := by decide +kernel
theorem jd_Mo_displace_51 : decode jq_Mo_displace.2.1 51 = .ok (.iaload, 1) := by decide +kernel
theorem jd_Mo_displace_52 : decode jq_Mo_displace.2.1 52 = .ok (.aload_n 0, 1) := by decide +kernel
theorem jd_Mo_displace_53 : decode jq_Mo_displace.2.1 53 = .ok (.getfield 59, 3) := by decide +kernel
theorem jd_Mo_displace_56 : decode jq_Mo_displace.2.1 56 = .ok (.iload_n 2, 1) := by decide +kernel
theorem jd_Mo_displace_57 : decode jq_Mo_displace.2.1 57 = .ok (.iaload, 1) := by decide +kernel
theorem jd_Mo_displace_58 : decode jq_Mo_displace.2.1 58 = .ok (.if_icmp .ge 5, 3) := by decide +kernel
theorem jd_Mo_displace_61 : decode jq_Mo_displace.2.1 61 = .ok (.iload_n 3, 1) := by decide +kernel
theorem jd_Mo_displace_62 : decode jq_Mo_displace.2.1 62 = .ok (.istore_n 2, 1) := by decide +kernel
theorem jd_Mo_displace_63 : decode jq_Mo_displace.2.1 63 = .ok (.iinc 3 1, 3) := by decide +kernel
theorem jd_Mo_displace_66 : decode jq_Mo_displace.2.1 66 = .ok (.goto (-62), 3) := by decide +kernel
theorem jd_Mo_displace_69 : decode jq_Mo_displace.2.1 69 = .ok (.iload_n 2, 1) := by decide +kernel
theorem jd_Mo_displace_70 : decode jq_Mo_displace.2.1 70 = .ok (.ifCond .lt 9, 3) := by decide +kernel
theorem jd_Mo_displace_73 : decode jq_Mo_displace.2.1 73 = .ok (.aload_n 0, 1) := by decide +kernel
theorem jd_Mo_displace_74 : decode jq_Mo_displace.2.1 74 = .ok (.iload_n 2, 1) := by decide +kernel
theorem jd_Mo_displace_75 : decode jq_Mo_displace.2.1 75 = .ok (.invokevirtual 211, 3) := by decide +kernel
theorem jd_Mo_displace_78 : decode jq_Mo_displace.2.1 78 = .ok (.pop, 1) := by decide +kernel
theorem jd_Mo_displace_79 : decode jq_Mo_displace.2.1 79 = .ok (.return_, 1) := by decide +kernel
theorem jd_Mo_keptNow_0 : decode jq_Mo_keptNow.2.1 0 = .ok (.iconst 0, 1) := by decide +kernel
theorem jd_Mo_keptNow_1 : decode jq_Mo_keptNow.2.1 1 = .ok (.istore_n 1, 1) := by decide +kernel
theorem jd_Mo_keptNow_2 : decode jq_Mo_keptNow.2.1 2 = .ok (.iconst 0, 1) := by decide +kernel
theorem jd_Mo_keptNow_3 : decode jq_Mo_keptNow.2.1 3 = .ok (.istore_n 2, 1) := by decide +kernel
theorem jd_Mo_keptNow_4 : decode jq_Mo_keptNow.2.1 4 = .ok (.iload_n 2, 1) := by decide +kernel
theorem jd_Mo_keptNow_5 : decode jq_Mo_keptNow.2.1 5 = .ok (.aload_n 0, 1) := by decide +kernel
theorem jd_Mo_keptNow_6 : decode jq_Mo_keptNow.2.1 6 = .ok (.getfield 169, 3) := by decide +kernel
theorem jd_Mo_keptNow_9 : decode jq_Mo_keptNow.2.1 9 = .ok (.if_icmp .ge 26, 3) := by decide +kernel
theorem jd_Mo_keptNow_12 : decode jq_Mo_keptNow.2.1 12 = .ok (.aload_n 0, 1) := by decide +kernel
theorem jd_Mo_keptNow_13 : decode jq_Mo_keptNow.2.1 13 = .ok (.getfield 56, 3) := by decide +kernel
theorem jd_Mo_keptNow_16 : decode jq_Mo_keptNow.2.1 16 = .ok (.iload_n 2, 1) := by decide +kernel
theorem jd_Mo_keptNow_17 : decode jq_Mo_keptNow.2.1 17 = .ok (.baload, 1) := by decide +kernel
theorem jd_Mo_keptNow_18 : decode jq_Mo_keptNow.2.1 18 = .ok (.ifCond .eq 9, 3) := by decide +kernel
theorem jd_Mo_keptNow_21 : decode jq_Mo_keptNow.2.1 21 = .ok (.iload_n 1, 1) := by decide +kernel
theorem jd_Mo_keptNow_22 : decode jq_Mo_keptNow.2.1 22 = .ok (.iconst 1, 1) := by decide +kernel
theorem jd_Mo_keptNow_23 : decode jq_Mo_keptNow.2.1 23 = .ok (.iadd, 1) := by decide +kernel
theorem jd_Mo_keptNow_24 : decode jq_Mo_keptNow.2.1 24 = .ok (.goto 4, 3) := by decide +kernel
theorem jd_Mo_keptNow_27 : decode jq_Mo_keptNow.2.1 27 = .ok (.iload_n 1, 1) := by decide +kernel
theorem jd_Mo_keptNow_28 : decode jq_Mo_keptNow.2.1 28 = .ok (.istore_n 1, 1) := by decide +kernel
theorem jd_Mo_keptNow_29 : decode jq_Mo_keptNow.2.1 29 = .ok (.iinc 2 1, 3) := by decide +kernel
theorem jd_Mo_keptNow_32 : decode jq_Mo_keptNow.2.1 32 = .ok (.goto (-28), 3) := by decide +kernel
theorem jd_Mo_keptNow_35 : decode jq_Mo_keptNow.2.1 35 = .ok (.iload_n 1, 1) := by decide +kernel
theorem jd_Mo_keptNow_36 : decode jq_Mo_keptNow.2.1 36 = .ok (.ireturn, 1) := by decide +kernel
theorem jd_Mo_stamp_0 : decode jq_Mo_stamp.2.1 0 = .ok (.iload_n 1, 1) := by decide +kernel
theorem jd_Mo_stamp_1 : decode jq_Mo_stamp.2.1 1 = .ok (.ifCond .ge 4, 3) := by decide +kernel
theorem jd_Mo_stamp_4 : decode jq_Mo_stamp.2.1 4 = .ok (.return_, 1) := by decide +kernel
theorem jd_Mo_stamp_5 : decode jq_Mo_stamp.2.1 5 = .ok (.aload_n 0, 1) := by decide +kernel
theorem jd_Mo_stamp_6 : decode jq_Mo_stamp.2.1 6 = .ok (.dup, 1) := by decide +kernel
theorem jd_Mo_stamp_7 : decode jq_Mo_stamp.2.1 7 = .ok (.getfield 180, 3) := by decide +kernel
theorem jd_Mo_stamp_10 : decode jq_Mo_stamp.2.1 10 = .ok (.iconst 1, 1) := by decide +kernel
theorem jd_Mo_stamp_11 : decode jq_Mo_stamp.2.1 11 = .ok (.iadd, 1) := by decide +kernel
theorem jd_Mo_stamp_12 : decode jq_Mo_stamp.2.1 12 = .ok (.putfield 180, 3) := by decide +kernel
theorem jd_Mo_stamp_15 : decode jq_Mo_stamp.2.1 15 = .ok (.aload_n 0, 1) := by decide +kernel
theorem jd_Mo_stamp_16 : decode jq_Mo_stamp.2.1 16 = .ok (.getfield 59, 3) := by decide +kernel
theorem jd_Mo_stamp_19 : decode jq_Mo_stamp.2.1 19 = .ok (.iload_n 1, 1) := by decide +kernel
theorem jd_Mo_stamp_20 : decode jq_Mo_stamp.2.1 20 = .ok (.aload_n 0, 1) := by decide +kernel
theorem jd_Mo_stamp_21 : decode jq_Mo_stamp.2.1 21 = .ok (.getfield 180, 3) := by decide +kernel
theorem jd_Mo_stamp_24 : decode jq_Mo_stamp.2.1 24 = .ok (.iastore, 1) := by decide +kernel
theorem jd_Mo_stamp_25 : decode jq_Mo_stamp.2.1 25 = .ok (.return_, 1) := by decide +kernel
theorem jd_Mo_use_0 : decode jq_Mo_use.2.1 0 = .ok (.aload_n 0, 1) := by decide +kernel
theorem jd_Mo_use_1 : decode jq_Mo_use.2.1 1 = .ok (.getfield 53, 3) := by decide +kernel
theorem jd_Mo_use_4 : decode jq_Mo_use.2.1 4 = .ok (.iload_n 1, 1) := by decide +kernel
theorem jd_Mo_use_5 : decode jq_Mo_use.2.1 5 = .ok (.iaload, 1) := by decide +kernel
theorem jd_Mo_use_6 : decode jq_Mo_use.2.1 6 = .ok (.istore_n 2, 1) := by decide +kernel
theorem jd_Mo_use_7 : decode jq_Mo_use.2.1 7 = .ok (.iload_n 2, 1) := by decide +kernel
theorem jd_Mo_use_8 : decode jq_Mo_use.2.1 8 = .ok (.ifCond .ge 7, 3) := by decide +kernel
theorem jd_Mo_use_11 : decode jq_Mo_use.2.1 11 = .ok (.iconst (-1), 1) := by decide +kernel
theorem jd_Mo_use_12 : decode jq_Mo_use.2.1 12 = .ok (.goto 9, 3) := by decide +kernel
theorem jd_Mo_use_15 : decode jq_Mo_use.2.1 15 = .ok (.aload_n 0, 1) := by decide +kernel
theorem jd_Mo_use_16 : decode jq_Mo_use.2.1 16 = .ok (.getfield 53, 3) := by decide +kernel
theorem jd_Mo_use_19 : decode jq_Mo_use.2.1 19 = .ok (.iload_n 2, 1) := by decide +kernel
theorem jd_Mo_use_20 : decode jq_Mo_use.2.1 20 = .ok (.iaload, 1) := by decide +kernel
theorem jd_Mo_use_21 : decode jq_Mo_use.2.1 21 = .ok (.istore_n 3, 1) := by decide +kernel
theorem jd_Mo_use_22 : decode jq_Mo_use.2.1 22 = .ok (.aload_n 0, 1) := by decide +kernel
theorem jd_Mo_use_23 : decode jq_Mo_use.2.1 23 = .ok (.iload_n 3, 1) := by decide +kernel
theorem jd_Mo_use_24 : decode jq_Mo_use.2.1 24 = .ok (.invokevirtual 176, 3) := by decide +kernel
theorem jd_Mo_use_27 : decode jq_Mo_use.2.1 27 = .ok (.aload_n 0, 1) := by decide +kernel
theorem jd_Mo_use_28 : decode jq_Mo_use.2.1 28 = .ok (.iload_n 2, 1) := by decide +kernel
theorem jd_Mo_use_29 : decode jq_Mo_use.2.1 29 = .ok (.invokevirtual 176, 3) := by decide +kernel
theorem jd_Mo_use_32 : decode jq_Mo_use.2.1 32 = .ok (.aload_n 0, 1) := by decide +kernel
theorem jd_Mo_use_33 : decode jq_Mo_use.2.1 33 = .ok (.iload_n 1, 1) := by decide +kernel
theorem jd_Mo_use_34 : decode jq_Mo_use.2.1 34 = .ok (.invokevirtual 176, 3) := by decide +kernel
theorem jd_Mo_use_37 : decode jq_Mo_use.2.1 37 = .ok (.return_, 1) := by decide +kernel
theorem jd_Mo_build_0 : decode jq_Mo_build.2.1 0 = .ok (.aload_n 0, 1) := by decide +kernel
theorem jd_Mo_build_1 : decode jq_Mo_build.2.1 1 = .ok (.getfield 169, 3) := by decide +kernel
theorem jd_Mo_build_4 : decode jq_Mo_build.2.1 4 = .ok (.bipush 30, 2) := by decide +kernel
theorem jd_Mo_build_6 : decode jq_Mo_build.2.1 6 = .ok (.if_icmp .ne 6, 3) := by decide +kernel
theorem jd_Mo_build_9 : decode jq_Mo_build.2.1 9 = .ok (.bipush (-7), 2) := by decide +kernel
theorem jd_Mo_build_11 : decode jq_Mo_build.2.1 11 = .ok (.ireturn, 1) := by decide +kernel
theorem jd_Mo_build_12 : decode jq_Mo_build.2.1 12 = .ok (.aload_n 0, 1) := by decide +kernel
theorem jd_Mo_build_13 : decode jq_Mo_build.2.1 13 = .ok (.getfield 169, 3) := by decide +kernel
theorem jd_Mo_build_16 : decode jq_Mo_build.2.1 16 = .ok (.istore_n 3, 1) := by decide +kernel
theorem jd_Mo_build_17 : decode jq_Mo_build.2.1 17 = .ok (.aload_n 0, 1) := by decide +kernel
theorem jd_Mo_build_18 : decode jq_Mo_build.2.1 18 = .ok (.dup, 1) := by decide +kernel
theorem jd_Mo_build_19 : decode jq_Mo_build.2.1 19 = .ok (.getfield 169, 3) := by decide +kernel
theorem jd_Mo_build_22 : decode jq_Mo_build.2.1 22 = .ok (.iconst 1, 1) := by decide +kernel
theorem jd_Mo_build_23 : decode jq_Mo_build.2.1 23 = .ok (.iadd, 1) := by decide +kernel
theorem jd_Mo_build_24 : decode jq_Mo_build.2.1 24 = .ok (.putfield 169, 3) := by decide +kernel
theorem jd_Mo_build_27 : decode jq_Mo_build.2.1 27 = .ok (.aload_n 0, 1) := by decide +kernel
theorem jd_Mo_build_28 : decode jq_Mo_build.2.1 28 = .ok (.getfield 50, 3) := by decide +kernel
theorem jd_Mo_build_31 : decode jq_Mo_build.2.1 31 = .ok (.iload_n 3, 1) := by decide +kernel
theorem jd_Mo_build_32 : decode jq_Mo_build.2.1 32 = .ok (.iload_n 1, 1) := by decide +kernel
theorem jd_Mo_build_33 : decode jq_Mo_build.2.1 33 = .ok (.iastore, 1) := by decide +kernel
theorem jd_Mo_build_34 : decode jq_Mo_build.2.1 34 = .ok (.aload_n 0, 1) := by decide +kernel
theorem jd_Mo_build_35 : decode jq_Mo_build.2.1 35 = .ok (.getfield 53, 3) := by decide +kernel
theorem jd_Mo_build_38 : decode jq_Mo_build.2.1 38 = .ok (.iload_n 3, 1) := by decide +kernel
theorem jd_Mo_build_39 : decode jq_Mo_build.2.1 39 = .ok (.iload_n 2, 1) := by decide +kernel
theorem jd_Mo_build_40 : decode jq_Mo_build.2.1 40 = .ok (.iastore, 1) := by decide +kernel
theorem jd_Mo_build_41 : decode jq_Mo_build.2.1 41 = .ok (.iconst 0, 1) := by decide +kernel
theorem jd_Mo_build_42 : decode jq_Mo_build.2.1 42 = .ok (.istore 4, 2) := by decide +kernel
theorem jd_Mo_build_44 : decode jq_Mo_build.2.1 44 = .ok (.iload 4, 2) := by decide +kernel
theorem jd_Mo_build_46 : decode jq_Mo_build.2.1 46 = .ok (.aload_n 0, 1) := by decide +kernel
theorem jd_Mo_build_47 : decode jq_Mo_build.2.1 47 = .ok (.getfield 119, 3) := by decide +kernel
theorem jd_Mo_build_50 : decode jq_Mo_build.2.1 50 = .ok (.if_icmp .ge 93, 3) := by decide +kernel
theorem jd_Mo_build_53 : decode jq_Mo_build.2.1 53 = .ok (.aload_n 0, 1) := by decide +kernel
theorem jd_Mo_build_54 : decode jq_Mo_build.2.1 54 = .ok (.iload_n 3, 1) := by decide +kernel
theorem jd_Mo_build_55 : decode jq_Mo_build.2.1 55 = .ok (.iload 4, 2) := by decide +kernel
theorem jd_Mo_build_57 : decode jq_Mo_build.2.1 57 = .ok (.invokevirtual 138, 3) := by decide +kernel
theorem jd_Mo_build_60 : decode jq_Mo_build.2.1 60 = .ok (.ifCond .eq 77, 3) := by decide +kernel
theorem jd_Mo_build_63 : decode jq_Mo_build.2.1 63 = .ok (.aload_n 0, 1) := by decide +kernel
theorem jd_Mo_build_64 : decode jq_Mo_build.2.1 64 = .ok (.iload_n 3, 1) := by decide +kernel
theorem jd_Mo_build_65 : decode jq_Mo_build.2.1 65 = .ok (.iload 4, 2) := by decide +kernel
theorem jd_Mo_build_67 : decode jq_Mo_build.2.1 67 = .ok (.invokevirtual 132, 3) := by decide +kernel
theorem jd_Mo_build_70 : decode jq_Mo_build.2.1 70 = .ok (.ifCond .ne 16, 3) := by decide +kernel
theorem jd_Mo_build_73 : decode jq_Mo_build.2.1 73 = .ok (.aload_n 0, 1) := by decide +kernel
theorem jd_Mo_build_74 : decode jq_Mo_build.2.1 74 = .ok (.getfield 17, 3) := by decide +kernel
theorem jd_Mo_build_77 : decode jq_Mo_build.2.1 77 = .ok (.iload 4, 2) := by decide +kernel
theorem jd_Mo_build_79 : decode jq_Mo_build.2.1 79 = .ok (.iaload, 1) := by decide +kernel
theorem jd_Mo_build_80 : decode jq_Mo_build.2.1 80 = .ok (.bipush 6, 2) := by decide +kernel
theorem jd_Mo_build_82 : decode jq_Mo_build.2.1 82 = .ok (.iand, 1) := by decide +kernel
theorem jd_Mo_build_83 : decode jq_Mo_build.2.1 83 = .ok (.ifCond .ne 54, 3) := by decide +kernel
theorem jd_Mo_build_86 : decode jq_Mo_build.2.1 86 = .ok (.aload_n 0, 1) := by decide +kernel
theorem jd_Mo_build_87 : decode jq_Mo_build.2.1 87 = .ok (.iload_n 3, 1) := by decide +kernel
theorem jd_Mo_build_88 : decode jq_Mo_build.2.1 88 = .ok (.iload 4, 2) := by decide +kernel
theorem jd_Mo_build_90 : decode jq_Mo_build.2.1 90 = .ok (.invokevirtual 151, 3) := by decide +kernel
theorem jd_Mo_build_93 : decode jq_Mo_build.2.1 93 = .ok (.ifCond .lt 6, 3) := by decide +kernel
theorem jd_Mo_build_96 : decode jq_Mo_build.2.1 96 = .ok (.goto 41, 3) := by decide +kernel
theorem jd_Mo_build_99 : decode jq_Mo_build.2.1 99 = .ok (.aload_n 0, 1) := by decide +kernel
theorem jd_Mo_build_100 : decode jq_Mo_build.2.1 100 = .ok (.iload_n 3, 1) := by decide +kernel
theorem jd_Mo_build_101 : decode jq_Mo_build.2.1 101 = .ok (.iload 4, 2) := by decide +kernel
theorem jd_Mo_build_103 : decode jq_Mo_build.2.1 103 = .ok (.invokevirtual 195, 3) := by decide +kernel
theorem jd_Mo_build_106 : decode jq_Mo_build.2.1 106 = .ok (.istore 5, 2) := by decide +kernel
theorem jd_Mo_build_108 : decode jq_Mo_build.2.1 108 = .ok (.iload 5, 2) := by decide +kernel
theorem jd_Mo_build_110 : decode jq_Mo_build.2.1 110 = .ok (.ifCond .ge 27, 3) := by decide +kernel
theorem jd_Mo_build_113 : decode jq_Mo_build.2.1 113 = .ok (.aload_n 0, 1) := by decide +kernel
theorem jd_Mo_build_114 : decode jq_Mo_build.2.1 114 = .ok (.iload_n 3, 1) := by decide +kernel
theorem jd_Mo_build_115 : decode jq_Mo_build.2.1 115 = .ok (.invokevirtual 198, 3) := by decide +kernel
theorem jd_Mo_build_118 : decode jq_Mo_build.2.1 118 = .ok (.aload_n 0, 1) := by decide +kernel
theorem jd_Mo_build_119 : decode jq_Mo_build.2.1 119 = .ok (.getfield 47, 3) := by decide +kernel
theorem jd_Mo_build_122 : decode jq_Mo_build.2.1 122 = .ok (.iload_n 1, 1) := by decide +kernel
theorem jd_Mo_build_123 : decode jq_Mo_build.2.1 123 = .ok (.dup2, 1) := by decide +kernel
theorem jd_Mo_build_124 : decode jq_Mo_build.2.1 124 = .ok (.iaload, 1) := by decide +kernel
theorem jd_Mo_build_125 : decode jq_Mo_build.2.1 125 = .ok (.iconst 1, 1) := by decide +kernel
theorem jd_Mo_build_126 : decode jq_Mo_build.2.1 126 = .ok (.iadd, 1) := by decide +kernel
theorem jd_Mo_build_127 : decode jq_Mo_build.2.1 127 = .ok (.iastore, 1) := by decide +kernel
theorem jd_Mo_build_128 : decode jq_Mo_build.2.1 128 = .ok (.aload_n 0, 1) := by decide +kernel
theorem jd_Mo_build_129 : decode jq_Mo_build.2.1 129 = .ok (.iconst 3, 1) := by decide +kernel
theorem jd_Mo_build_130 : decode jq_Mo_build.2.1 130 = .ok (.iload_n 3, 1) := by decide +kernel
theorem jd_Mo_build_131 : decode jq_Mo_build.2.1 131 = .ok (.invokevirtual 144, 3) := by decide +kernel
theorem jd_Mo_build_134 : decode jq_Mo_build.2.1 134 = .ok (.iload 5, 2) := by decide +kernel
theorem jd_Mo_build_136 : decode jq_Mo_build.2.1 136 = .ok (.ireturn, 1) := by decide +kernel
theorem jd_Mo_build_137 : decode jq_Mo_build.2.1 137 = .ok (.iinc 4 1, 3) := by decide +kernel
theorem jd_Mo_build_140 : decode jq_Mo_build.2.1 140 = .ok (.goto (-96), 3) := by decide +kernel
theorem jd_Mo_build_143 : decode jq_Mo_build.2.1 143 = .ok (.aload_n 0, 1) := by decide +kernel
theorem jd_Mo_build_144 : decode jq_Mo_build.2.1 144 = .ok (.invokevirtual 201, 3) := by decide +kernel
theorem jd_Mo_build_147 : decode jq_Mo_build.2.1 147 = .ok (.aload_n 0, 1) := by decide +kernel
theorem jd_Mo_build_148 : decode jq_Mo_build.2.1 148 = .ok (.getfield 101, 3) := by decide +kernel
theorem jd_Mo_build_151 : decode jq_Mo_build.2.1 151 = .ok (.if_icmp .ne 8, 3) := by decide +kernel
theorem jd_Mo_build_154 : decode jq_Mo_build.2.1 154 = .ok (.aload_n 0, 1) := by decide +kernel
theorem jd_Mo_build_155 : decode jq_Mo_build.2.1 155 = .ok (.iload_n 3, 1) := by decide +kernel
theorem jd_Mo_build_156 : decode jq_Mo_build.2.1 156 = .ok (.invokevirtual 205, 3) := by decide +kernel
theorem jd_Mo_build_159 : decode jq_Mo_build.2.1 159 = .ok (.aload_n 0, 1) := by decide +kernel
theorem jd_Mo_build_160 : decode jq_Mo_build.2.1 160 = .ok (.getfield 56, 3) := by decide +kernel
theorem jd_Mo_build_163 : decode jq_Mo_build.2.1 163 = .ok (.iload_n 3, 1) := by decide +kernel
theorem jd_Mo_build_164 : decode jq_Mo_build.2.1 164 = .ok (.iconst 1, 1) := by decide +kernel
theorem jd_Mo_build_165 : decode jq_Mo_build.2.1 165 = .ok (.bastore, 1) := by decide +kernel
theorem jd_Mo_build_166 : decode jq_Mo_build.2.1 166 = .ok (.aload_n 0, 1) := by decide +kernel
theorem jd_Mo_build_167 : decode jq_Mo_build.2.1 167 = .ok (.iload_n 3, 1) := by decide +kernel
theorem jd_Mo_build_168 : decode jq_Mo_build.2.1 168 = .ok (.invokevirtual 189, 3) := by decide +kernel
theorem jd_Mo_build_171 : decode jq_Mo_build.2.1 171 = .ok (.aload_n 0, 1) := by decide +kernel
theorem jd_Mo_build_172 : decode jq_Mo_build.2.1 172 = .ok (.iconst 2, 1) := by decide +kernel
theorem jd_Mo_build_173 : decode jq_Mo_build.2.1 173 = .ok (.iload_n 3, 1) := by decide +kernel
theorem jd_Mo_build_174 : decode jq_Mo_build.2.1 174 = .ok (.invokevirtual 144, 3) := by decide +kernel
theorem jd_Mo_build_177 : decode jq_Mo_build.2.1 177 = .ok (.iload_n 3, 1) := by decide +kernel
theorem jd_Mo_build_178 : decode jq_Mo_build.2.1 178 = .ok (.ireturn, 1) := by decide +kernel
theorem jd_Mo_parentKey_0 : decode jq_Mo_parentKey.2.1 0 = .ok (.aload_n 0, 1) := by decide +kernel
theorem jd_Mo_parentKey_1 : decode jq_Mo_parentKey.2.1 1 = .ok (.getfield 44, 3) := by decide +kernel
theorem jd_Mo_parentKey_4 : decode jq_Mo_parentKey.2.1 4 = .ok (.iload_n 1, 1) := by decide +kernel
theorem jd_Mo_parentKey_5 : decode jq_Mo_parentKey.2.1 5 = .ok (.iaload, 1) := by decide +kernel
theorem jd_Mo_parentKey_6 : decode jq_Mo_parentKey.2.1 6 = .ok (.ifCond .ge 7, 3) := by decide +kernel
theorem jd_Mo_parentKey_9 : decode jq_Mo_parentKey.2.1 9 = .ok (.iconst (-1), 1) := by decide +kernel
theorem jd_Mo_parentKey_10 : decode jq_Mo_parentKey.2.1 10 = .ok (.goto 13, 3) := by decide +kernel
theorem jd_Mo_parentKey_13 : decode jq_Mo_parentKey.2.1 13 = .ok (.aload_n 0, 1) := by decide +kernel
theorem jd_Mo_parentKey_14 : decode jq_Mo_parentKey.2.1 14 = .ok (.aload_n 0, 1) := by decide +kernel
theorem jd_Mo_parentKey_15 : decode jq_Mo_parentKey.2.1 15 = .ok (.getfield 44, 3) := by decide +kernel
theorem jd_Mo_parentKey_18 : decode jq_Mo_parentKey.2.1 18 = .ok (.iload_n 1, 1) := by decide +kernel
theorem jd_Mo_parentKey_19 : decode jq_Mo_parentKey.2.1 19 = .ok (.iaload, 1) := by decide +kernel
theorem jd_Mo_parentKey_20 : decode jq_Mo_parentKey.2.1 20 = .ok (.invokevirtual 172, 3) := by decide +kernel
theorem jd_Mo_parentKey_23 : decode jq_Mo_parentKey.2.1 23 = .ok (.ireturn, 1) := by decide +kernel
theorem jd_Mo_obtain_0 : decode jq_Mo_obtain.2.1 0 = .ok (.iload_n 1, 1) := by decide +kernel
theorem jd_Mo_obtain_1 : decode jq_Mo_obtain.2.1 1 = .ok (.istore_n 2, 1) := by decide +kernel
theorem jd_Mo_obtain_2 : decode jq_Mo_obtain.2.1 2 = .ok (.iconst 0, 1) := by decide +kernel
theorem jd_Mo_obtain_3 : decode jq_Mo_obtain.2.1 3 = .ok (.istore_n 3, 1) := by decide +kernel
theorem jd_Mo_obtain_4 : decode jq_Mo_obtain.2.1 4 = .ok (.aload_n 0, 1) := by decide +kernel
theorem jd_Mo_obtain_5 : decode jq_Mo_obtain.2.1 5 = .ok (.iload_n 1, 1) := by decide +kernel
theorem jd_Mo_obtain_6 : decode jq_Mo_obtain.2.1 6 = .ok (.invokevirtual 183, 3) := by decide +kernel
theorem jd_Mo_obtain_9 : decode jq_Mo_obtain.2.1 9 = .ok (.istore 4, 2) := by decide +kernel
theorem jd_Mo_obtain_11 : decode jq_Mo_obtain.2.1 11 = .ok (.iconst 0, 1) := by decide +kernel
theorem jd_Mo_obtain_12 : decode jq_Mo_obtain.2.1 12 = .ok (.istore 5, 2) := by decide +kernel
theorem jd_Mo_obtain_14 : decode jq_Mo_obtain.2.1 14 = .ok (.iload 5, 2) := by decide +kernel
theorem jd_Mo_obtain_16 : decode jq_Mo_obtain.2.1 16 = .ok (.iconst 4, 1) := by decide +kernel
theorem jd_Mo_obtain_17 : decode jq_Mo_obtain.2.1 17 = .ok (.if_icmp .ge 75, 3) := by decide +kernel
theorem jd_Mo_obtain_20 : decode jq_Mo_obtain.2.1 20 = .ok (.iload 4, 2) := by decide +kernel
theorem jd_Mo_obtain_22 : decode jq_Mo_obtain.2.1 22 = .ok (.ifCond .ge 70, 3) := by decide +kernel
theorem jd_Mo_obtain_25 : decode jq_Mo_obtain.2.1 25 = .ok (.aload_n 0, 1) := by decide +kernel
theorem jd_Mo_obtain_26 : decode jq_Mo_obtain.2.1 26 = .ok (.getfield 47, 3) := by decide +kernel
theorem jd_Mo_obtain_29 : decode jq_Mo_obtain.2.1 29 = .ok (.iload_n 2, 1) := by decide +kernel
theorem jd_Mo_obtain_30 : decode jq_Mo_obtain.2.1 30 = .ok (.iaload, 1) := by decide +kernel
theorem jd_Mo_obtain_31 : decode jq_Mo_obtain.2.1 31 = .ok (.iconst 2, 1) := by decide +kernel
theorem jd_Mo_obtain_32 : decode jq_Mo_obtain.2.1 32 = .ok (.if_icmp .lt 6, 3) := by decide +kernel
theorem jd_Mo_obtain_35 : decode jq_Mo_obtain.2.1 35 = .ok (.bipush (-8), 2) := by decide +kernel
theorem jd_Mo_obtain_37 : decode jq_Mo_obtain.2.1 37 = .ok (.ireturn, 1) := by decide +kernel
theorem jd_Mo_obtain_38 : decode jq_Mo_obtain.2.1 38 = .ok (.aload_n 0, 1) := by decide +kernel
theorem jd_Mo_obtain_39 : decode jq_Mo_obtain.2.1 39 = .ok (.iload_n 2, 1) := by decide +kernel
theorem jd_Mo_obtain_40 : decode jq_Mo_obtain.2.1 40 = .ok (.invokevirtual 186, 3) := by decide +kernel
theorem jd_Mo_obtain_43 : decode jq_Mo_obtain.2.1 43 = .ok (.istore 6, 2) := by decide +kernel
theorem jd_Mo_obtain_45 : decode jq_Mo_obtain.2.1 45 = .ok (.iinc 3 1, 3) := by decide +kernel
theorem jd_Mo_obtain_48 : decode jq_Mo_obtain.2.1 48 = .ok (.iload 6, 2) := by decide +kernel
theorem jd_Mo_obtain_50 : decode jq_Mo_obtain.2.1 50 = .ok (.ifCond .ge 9, 3) := by decide +kernel
theorem jd_Mo_obtain_53 : decode jq_Mo_obtain.2.1 53 = .ok (.iconst 0, 1) := by decide +kernel
theorem jd_Mo_obtain_54 : decode jq_Mo_obtain.2.1 54 = .ok (.istore 4, 2) := by decide +kernel
theorem jd_Mo_obtain_56 : decode jq_Mo_obtain.2.1 56 = .ok (.goto 11, 3) := by decide +kernel
theorem jd_Mo_obtain_59 : decode jq_Mo_obtain.2.1 59 = .ok (.aload_n 0, 1) := by decide +kernel
theorem jd_Mo_obtain_60 : decode jq_Mo_obtain.2.1 60 = .ok (.iload 6, 2) := by decide +kernel
theorem jd_Mo_obtain_62 : decode jq_Mo_obtain.2.1 62 = .ok (.invokevirtual 183, 3) := by decide +kernel
theorem jd_Mo_obtain_65 : decode jq_Mo_obtain.2.1 65 = .ok (.istore 4, 2) := by decide +kernel
theorem jd_Mo_obtain_67 : decode jq_Mo_obtain.2.1 67 = .ok (.iload 6, 2) := by decide +kernel
theorem jd_Mo_obtain_69 : decode jq_Mo_obtain.2.1 69 = .ok (.ifCond .ge 7, 3) := by decide +kernel
theorem jd_Mo_obtain_72 : decode jq_Mo_obtain.2.1 72 = .ok (.iload_n 2, 1) := by decide +kernel
theorem jd_Mo_obtain_73 : decode jq_Mo_obtain.2.1 73 = .ok (.goto 5, 3) := by decide +kernel
theorem jd_Mo_obtain_76 : decode jq_Mo_obtain.2.1 76 = .ok (.iload 6, 2) := by decide +kernel
theorem jd_Mo_obtain_78 : decode jq_Mo_obtain.2.1 78 = .ok (.istore_n 2, 1) := by decide +kernel
theorem jd_Mo_obtain_79 : decode jq_Mo_obtain.2.1 79 = .ok (.iload 6, 2) := by decide +kernel
theorem jd_Mo_obtain_81 : decode jq_Mo_obtain.2.1 81 = .ok (.ifCond .ge 5, 3) := by decide +kernel
theorem jd_Mo_obtain_84 : decode jq_Mo_obtain.2.1 84 = .ok (.iconst (-1), 1) := by decide +kernel
theorem jd_Mo_obtain_85 : decode jq_Mo_obtain.2.1 85 = .ok (.istore_n 2, 1) := by decide +kernel
theorem jd_Mo_obtain_86 : decode jq_Mo_obtain.2.1 86 = .ok (.iinc 5 1, 3) := by decide +kernel
theorem jd_Mo_obtain_89 : decode jq_Mo_obtain.2.1 89 = .ok (.goto (-75), 3) := by decide +kernel
theorem jd_Mo_obtain_92 : decode jq_Mo_obtain.2.1 92 = .ok (.iload_n 2, 1) := by decide +kernel
theorem jd_Mo_obtain_93 : decode jq_Mo_obtain.2.1 93 = .ok (.ifCond .ge 7, 3) := by decide +kernel
theorem jd_Mo_obtain_96 : decode jq_Mo_obtain.2.1 96 = .ok (.iconst (-1), 1) := by decide +kernel
theorem jd_Mo_obtain_97 : decode jq_Mo_obtain.2.1 97 = .ok (.goto 5, 3) := by decide +kernel
theorem jd_Mo_obtain_100 : decode jq_Mo_obtain.2.1 100 = .ok (.iload 4, 2) := by decide +kernel
theorem jd_Mo_obtain_102 : decode jq_Mo_obtain.2.1 102 = .ok (.istore 5, 2) := by decide +kernel
theorem jd_Mo_obtain_104 : decode jq_Mo_obtain.2.1 104 = .ok (.iload 5, 2) := by decide +kernel
theorem jd_Mo_obtain_106 : decode jq_Mo_obtain.2.1 106 = .ok (.ifCond .lt 9, 3) := by decide +kernel
theorem jd_Mo_obtain_109 : decode jq_Mo_obtain.2.1 109 = .ok (.aload_n 0, 1) := by decide +kernel
theorem jd_Mo_obtain_110 : decode jq_Mo_obtain.2.1 110 = .ok (.iload 5, 2) := by decide +kernel
theorem jd_Mo_obtain_112 : decode jq_Mo_obtain.2.1 112 = .ok (.invokevirtual 189, 3) := by decide +kernel
theorem jd_Mo_obtain_115 : decode jq_Mo_obtain.2.1 115 = .ok (.iload_n 3, 1) := by decide +kernel
theorem jd_Mo_obtain_116 : decode jq_Mo_obtain.2.1 116 = .ok (.iconst 1, 1) := by decide +kernel
theorem jd_Mo_obtain_117 : decode jq_Mo_obtain.2.1 117 = .ok (.isub, 1) := by decide +kernel
theorem jd_Mo_obtain_118 : decode jq_Mo_obtain.2.1 118 = .ok (.istore 6, 2) := by decide +kernel
theorem jd_Mo_obtain_120 : decode jq_Mo_obtain.2.1 120 = .ok (.iload 6, 2) := by decide +kernel
theorem jd_Mo_obtain_122 : decode jq_Mo_obtain.2.1 122 = .ok (.ifCond .lt 54, 3) := by decide +kernel
theorem jd_Mo_obtain_125 : decode jq_Mo_obtain.2.1 125 = .ok (.iload_n 1, 1) := by decide +kernel
theorem jd_Mo_obtain_126 : decode jq_Mo_obtain.2.1 126 = .ok (.istore 7, 2) := by decide +kernel
theorem jd_Mo_obtain_128 : decode jq_Mo_obtain.2.1 128 = .ok (.iconst 0, 1) := by decide +kernel
theorem jd_Mo_obtain_129 : decode jq_Mo_obtain.2.1 129 = .ok (.istore 8, 2) := by decide +kernel
theorem jd_Mo_obtain_131 : decode jq_Mo_obtain.2.1 131 = .ok (.iload 8, 2) := by decide +kernel
theorem jd_Mo_obtain_133 : decode jq_Mo_obtain.2.1 133 = .ok (.iload 6, 2) := by decide +kernel
theorem jd_Mo_obtain_135 : decode jq_Mo_obtain.2.1 135 = .ok (.if_icmp .ge 17, 3) := by decide +kernel
theorem jd_Mo_obtain_138 : decode jq_Mo_obtain.2.1 138 = .ok (.aload_n 0, 1) := by decide +kernel
theorem jd_Mo_obtain_139 : decode jq_Mo_obtain.2.1 139 = .ok (.iload 7, 2) := by decide +kernel
theorem jd_Mo_obtain_141 : decode jq_Mo_obtain.2.1 141 = .ok (.invokevirtual 186, 3) := by decide +kernel
theorem jd_Mo_obtain_144 : decode jq_Mo_obtain.2.1 144 = .ok (.istore 7, 2) := by decide +kernel
theorem jd_Mo_obtain_146 : decode jq_Mo_obtain.2.1 146 = .ok (.iinc 8 1, 3) := by decide +kernel
theorem jd_Mo_obtain_149 : decode jq_Mo_obtain.2.1 149 = .ok (.goto (-18), 3) := by decide +kernel
theorem jd_Mo_obtain_152 : decode jq_Mo_obtain.2.1 152 = .ok (.aload_n 0, 1) := by decide +kernel
theorem jd_Mo_obtain_153 : decode jq_Mo_obtain.2.1 153 = .ok (.iload 7, 2) := by decide +kernel
theorem jd_Mo_obtain_155 : decode jq_Mo_obtain.2.1 155 = .ok (.iload 5, 2) := by decide +kernel
theorem jd_Mo_obtain_157 : decode jq_Mo_obtain.2.1 157 = .ok (.invokevirtual 192, 3) := by decide +kernel
theorem jd_Mo_obtain_160 : decode jq_Mo_obtain.2.1 160 = .ok (.istore 5, 2) := by decide +kernel
theorem jd_Mo_obtain_162 : decode jq_Mo_obtain.2.1 162 = .ok (.iload 5, 2) := by decide +kernel
theorem jd_Mo_obtain_164 : decode jq_Mo_obtain.2.1 164 = .ok (.ifCond .ge 6, 3) := by decide +kernel
theorem jd_Mo_obtain_167 : decode jq_Mo_obtain.2.1 167 = .ok (.iload 5, 2) := by decide +kernel
theorem jd_Mo_obtain_169 : decode jq_Mo_obtain.2.1 169 = .ok (.ireturn, 1) := by decide +kernel
theorem jd_Mo_obtain_170 : decode jq_Mo_obtain.2.1 170 = .ok (.iinc 6 (-1), 3) := by decide +kernel
theorem jd_Mo_obtain_173 : decode jq_Mo_obtain.2.1 173 = .ok (.goto (-53), 3) := by decide +kernel
theorem jd_Mo_obtain_176 : decode jq_Mo_obtain.2.1 176 = .ok (.iload 5, 2) := by decide +kernel
theorem jd_Mo_obtain_178 : decode jq_Mo_obtain.2.1 178 = .ok (.ireturn, 1) := by decide +kernel
theorem jd_Mo_request_0 : decode jq_Mo_request.2.1 0 = .ok (.aload_n 0, 1) := by decide +kernel
theorem jd_Mo_request_1 : decode jq_Mo_request.2.1 1 = .ok (.getfield 220, 3) := by decide +kernel
theorem jd_Mo_request_4 : decode jq_Mo_request.2.1 4 = .ok (.ifCond .ne 11, 3) := by decide +kernel
theorem jd_Mo_request_7 : decode jq_Mo_request.2.1 7 = .ok (.aload_n 0, 1) := by decide +kernel
theorem jd_Mo_request_8 : decode jq_Mo_request.2.1 8 = .ok (.iload_n 1, 1) := by decide +kernel
theorem jd_Mo_request_9 : decode jq_Mo_request.2.1 9 = .ok (.invokevirtual 125, 3) := by decide +kernel
theorem jd_Mo_request_12 : decode jq_Mo_request.2.1 12 = .ok (.ifCond .ne 7, 3) := by decide +kernel
theorem jd_Mo_request_15 : decode jq_Mo_request.2.1 15 = .ok (.iconst (-1), 1) := by decide +kernel
theorem jd_Mo_request_16 : decode jq_Mo_request.2.1 16 = .ok (.goto 12, 3) := by decide +kernel
theorem jd_Mo_request_19 : decode jq_Mo_request.2.1 19 = .ok (.aload_n 0, 1) := by decide +kernel
theorem jd_Mo_request_20 : decode jq_Mo_request.2.1 20 = .ok (.aload_n 0, 1) := by decide +kernel
theorem jd_Mo_request_21 : decode jq_Mo_request.2.1 21 = .ok (.iload_n 1, 1) := by decide +kernel
theorem jd_Mo_request_22 : decode jq_Mo_request.2.1 22 = .ok (.invokevirtual 172, 3) := by decide +kernel
theorem jd_Mo_request_25 : decode jq_Mo_request.2.1 25 = .ok (.invokevirtual 224, 3) := by decide +kernel
theorem jd_Mo_request_28 : decode jq_Mo_request.2.1 28 = .ok (.ireturn, 1) := by decide +kernel
theorem jd_Mo_reset_0 : decode jq_Mo_reset.2.1 0 = .ok (.aload_n 0, 1) := by decide +kernel
theorem jd_Mo_reset_1 : decode jq_Mo_reset.2.1 1 = .ok (.iload_n 1, 1) := by decide +kernel
theorem jd_Mo_reset_2 : decode jq_Mo_reset.2.1 2 = .ok (.invokevirtual 227, 3) := by decide +kernel
theorem jd_Mo_reset_5 : decode jq_Mo_reset.2.1 5 = .ok (.istore_n 2, 1) := by decide +kernel
theorem jd_Mo_reset_6 : decode jq_Mo_reset.2.1 6 = .ok (.iload_n 2, 1) := by decide +kernel
theorem jd_Mo_reset_7 : decode jq_Mo_reset.2.1 7 = .ok (.ifCond .ge 5, 3) := by decide +kernel
theorem jd_Mo_reset_10 : decode jq_Mo_reset.2.1 10 = .ok (.iconst (-1), 1) := by decide +kernel
theorem jd_Mo_reset_11 : decode jq_Mo_reset.2.1 11 = .ok (.ireturn, 1) := by decide +kernel
theorem jd_Mo_reset_12 : decode jq_Mo_reset.2.1 12 = .ok (.iconst 0, 1) := by decide +kernel
theorem jd_Mo_reset_13 : decode jq_Mo_reset.2.1 13 = .ok (.istore_n 3, 1) := by decide +kernel
theorem jd_Mo_reset_14 : decode jq_Mo_reset.2.1 14 = .ok (.iconst 0, 1) := by decide +kernel
theorem jd_Mo_reset_15 : decode jq_Mo_reset.2.1 15 = .ok (.istore 4, 2) := by decide +kernel
theorem jd_Mo_reset_17 : decode jq_Mo_reset.2.1 17 = .ok (.iload 4, 2) := by decide +kernel
theorem jd_Mo_reset_19 : decode jq_Mo_reset.2.1 19 = .ok (.aload_n 0, 1) := by decide +kernel
theorem jd_Mo_reset_20 : decode jq_Mo_reset.2.1 20 = .ok (.getfield 135, 3) := by decide +kernel
theorem jd_Mo_reset_23 : decode jq_Mo_reset.2.1 23 = .ok (.if_icmp .ge 96, 3) := by decide +kernel
theorem jd_Mo_reset_26 : decode jq_Mo_reset.2.1 26 = .ok (.aload_n 0, 1) := by decide +kernel
theorem jd_Mo_reset_27 : decode jq_Mo_reset.2.1 27 = .ok (.iload 4, 2) := by decide +kernel
theorem jd_Mo_reset_29 : decode jq_Mo_reset.2.1 29 = .ok (.invokevirtual 230, 3) := by decide +kernel
theorem jd_Mo_reset_32 : decode jq_Mo_reset.2.1 32 = .ok (.ifCond .eq 43, 3) := by decide +kernel
theorem jd_Mo_reset_35 : decode jq_Mo_reset.2.1 35 = .ok (.aload_n 0, 1) := by decide +kernel
theorem jd_Mo_reset_36 : decode jq_Mo_reset.2.1 36 = .ok (.getfield 68, 3) := by decide +kernel
theorem jd_Mo_reset_39 : decode jq_Mo_reset.2.1 39 = .ok (.iload 4, 2) := by decide +kernel
theorem jd_Mo_reset_41 : decode jq_Mo_reset.2.1 41 = .ok (.baload, 1) := by decide +kernel
theorem jd_Mo_reset_42 : decode jq_Mo_reset.2.1 42 = .ok (.ifCond .eq 33, 3) := by decide +kernel
theorem jd_Mo_reset_45 : decode jq_Mo_reset.2.1 45 = .ok (.aload_n 0, 1) := by decide +kernel
theorem jd_Mo_reset_46 : decode jq_Mo_reset.2.1 46 = .ok (.getfield 62, 3) := by decide +kernel
theorem jd_Mo_reset_49 : decode jq_Mo_reset.2.1 49 = .ok (.iload 4, 2) := by decide +kernel
theorem jd_Mo_reset_51 : decode jq_Mo_reset.2.1 51 = .ok (.iaload, 1) := by decide +kernel
theorem jd_Mo_reset_52 : decode jq_Mo_reset.2.1 52 = .ok (.iload_n 2, 1) := by decide +kernel
theorem jd_Mo_reset_53 : decode jq_Mo_reset.2.1 53 = .ok (.if_icmp .eq 18, 3) := by decide +kernel
theorem jd_Mo_reset_56 : decode jq_Mo_reset.2.1 56 = .ok (.aload_n 0, 1) := by decide +kernel
theorem jd_Mo_reset_57 : decode jq_Mo_reset.2.1 57 = .ok (.aload_n 0, 1) := by decide +kernel
theorem jd_Mo_reset_58 : decode jq_Mo_reset.2.1 58 = .ok (.getfield 62, 3) := by decide +kernel
theorem jd_Mo_reset_61 : decode jq_Mo_reset.2.1 61 = .ok (.iload 4, 2) := by decide +kernel
theorem jd_Mo_reset_63 : decode jq_Mo_reset.2.1 63 = .ok (.iaload, 1) := by decide +kernel
theorem jd_Mo_reset_64 : decode jq_Mo_reset.2.1 64 = .ok (.iload_n 2, 1) := by decide +kernel
theorem jd_Mo_reset_65 : decode jq_Mo_reset.2.1 65 = .ok (.invokevirtual 208, 3) := by decide +kernel
theorem jd_Mo_reset_68 : decode jq_Mo_reset.2.1 68 = .ok (.ifCond .eq 7, 3) := by decide +kernel
theorem jd_Mo_reset_71 : decode jq_Mo_reset.2.1 71 = .ok (.iconst 1, 1) := by decide +kernel
theorem jd_Mo_reset_72 : decode jq_Mo_reset.2.1 72 = .ok (.goto 4, 3) := by decide +kernel
theorem jd_Mo_reset_75 : decode jq_Mo_reset.2.1 75 = .ok (.iconst 0, 1) := by decide +kernel
theorem jd_Mo_reset_76 : decode jq_Mo_reset.2.1 76 = .ok (.istore 5, 2) := by decide +kernel
theorem jd_Mo_reset_78 : decode jq_Mo_reset.2.1 78 = .ok (.iload 5, 2) := by decide +kernel
theorem jd_Mo_reset_80 : decode jq_Mo_reset.2.1 80 = .ok (.ifCond .ne 6, 3) := by decide +kernel
theorem jd_Mo_reset_83 : decode jq_Mo_reset.2.1 83 = .ok (.goto 30, 3) := by decide +kernel
theorem jd_Mo_reset_86 : decode jq_Mo_reset.2.1 86 = .ok (.aload_n 0, 1) := by decide +kernel
theorem jd_Mo_reset_87 : decode jq_Mo_reset.2.1 87 = .ok (.getfield 77, 3) := by decide +kernel
theorem jd_Mo_reset_90 : decode jq_Mo_reset.2.1 90 = .ok (.iload 4, 2) := by decide +kernel
theorem jd_Mo_reset_92 : decode jq_Mo_reset.2.1 92 = .ok (.iconst 0, 1) := by decide +kernel
theorem jd_Mo_reset_93 : decode jq_Mo_reset.2.1 93 = .ok (.iastore, 1) := by decide +kernel
theorem jd_Mo_reset_94 : decode jq_Mo_reset.2.1 94 = .ok (.aload_n 0, 1) := by decide +kernel
theorem jd_Mo_reset_95 : decode jq_Mo_reset.2.1 95 = .ok (.getfield 80, 3) := by decide +kernel
theorem jd_Mo_reset_98 : decode jq_Mo_reset.2.1 98 = .ok (.iload 4, 2) := by decide +kernel
theorem jd_Mo_reset_100 : decode jq_Mo_reset.2.1 100 = .ok (.iconst 0, 1) := by decide +kernel
theorem jd_Mo_reset_101 : decode jq_Mo_reset.2.1 101 = .ok (.iastore, 1) := by decide +kernel
theorem jd_Mo_reset_102 : decode jq_Mo_reset.2.1 102 = .ok (.aload_n 0, 1) := by decide +kernel
theorem jd_Mo_reset_103 : decode jq_Mo_reset.2.1 103 = .ok (.getfield 83, 3) := by decide +kernel
theorem jd_Mo_reset_106 : decode jq_Mo_reset.2.1 106 = .ok (.iload 4, 2) := by decide +kernel
theorem jd_Mo_reset_108 : decode jq_Mo_reset.2.1 108 = .ok (.iconst 0, 1) := by decide +kernel
theorem jd_Mo_reset_109 : decode jq_Mo_reset.2.1 109 = .ok (.iastore, 1) := by decide +kernel
theorem jd_Mo_reset_110 : decode jq_Mo_reset.2.1 110 = .ok (.iinc 3 1, 3) := by decide +kernel
theorem jd_Mo_reset_113 : decode jq_Mo_reset.2.1 113 = .ok (.iinc 4 1, 3) := by decide +kernel
theorem jd_Mo_reset_116 : decode jq_Mo_reset.2.1 116 = .ok (.goto (-99), 3) := by decide +kernel
theorem jd_Mo_reset_119 : decode jq_Mo_reset.2.1 119 = .ok (.iload_n 3, 1) := by decide +kernel
theorem jd_Mo_reset_120 : decode jq_Mo_reset.2.1 120 = .ok (.ireturn, 1) := by decide +kernel
theorem jd_Mo_shutdown_0 : decode jq_Mo_shutdown.2.1 0 = .ok (.iconst 0, 1) := by decide +kernel
theorem jd_Mo_shutdown_1 : decode jq_Mo_shutdown.2.1 1 = .ok (.istore_n 1, 1) := by decide +kernel
theorem jd_Mo_shutdown_2 : decode jq_Mo_shutdown.2.1 2 = .ok (.aload_n 0, 1) := by decide +kernel
theorem jd_Mo_shutdown_3 : decode jq_Mo_shutdown.2.1 3 = .ok (.iconst 1, 1) := by decide +kernel
theorem jd_Mo_shutdown_4 : decode jq_Mo_shutdown.2.1 4 = .ok (.putfield 220, 3) := by decide +kernel
theorem jd_Mo_shutdown_7 : decode jq_Mo_shutdown.2.1 7 = .ok (.aload_n 0, 1) := by decide +kernel
theorem jd_Mo_shutdown_8 : decode jq_Mo_shutdown.2.1 8 = .ok (.getfield 169, 3) := by decide +kernel
theorem jd_Mo_shutdown_11 : decode jq_Mo_shutdown.2.1 11 = .ok (.iconst 1, 1) := by decide +kernel
theorem jd_Mo_shutdown_12 : decode jq_Mo_shutdown.2.1 12 = .ok (.isub, 1) := by decide +kernel
theorem jd_Mo_shutdown_13 : decode jq_Mo_shutdown.2.1 13 = .ok (.istore_n 2, 1) := by decide +kernel
theorem jd_Mo_shutdown_14 : decode jq_Mo_shutdown.2.1 14 = .ok (.iload_n 2, 1) := by decide +kernel
theorem jd_Mo_shutdown_15 : decode jq_Mo_shutdown.2.1 15 = .ok (.ifCond .lt 30, 3) := by decide +kernel
theorem jd_Mo_shutdown_18 : decode jq_Mo_shutdown.2.1 18 = .ok (.aload_n 0, 1) := by decide +kernel
theorem jd_Mo_shutdown_19 : decode jq_Mo_shutdown.2.1 19 = .ok (.getfield 56, 3) := by decide +kernel
theorem jd_Mo_shutdown_22 : decode jq_Mo_shutdown.2.1 22 = .ok (.iload_n 2, 1) := by decide +kernel
theorem jd_Mo_shutdown_23 : decode jq_Mo_shutdown.2.1 23 = .ok (.baload, 1) := by decide +kernel
theorem jd_Mo_shutdown_24 : decode jq_Mo_shutdown.2.1 24 = .ok (.ifCond .eq 13, 3) := by decide +kernel
theorem jd_Mo_shutdown_27 : decode jq_Mo_shutdown.2.1 27 = .ok (.iload_n 1, 1) := by decide +kernel
theorem jd_Mo_shutdown_28 : decode jq_Mo_shutdown.2.1 28 = .ok (.aload_n 0, 1) := by decide +kernel
theorem jd_Mo_shutdown_29 : decode jq_Mo_shutdown.2.1 29 = .ok (.iload_n 2, 1) := by decide +kernel
theorem jd_Mo_shutdown_30 : decode jq_Mo_shutdown.2.1 30 = .ok (.invokevirtual 211, 3) := by decide +kernel
theorem jd_Mo_shutdown_33 : decode jq_Mo_shutdown.2.1 33 = .ok (.iadd, 1) := by decide +kernel
theorem jd_Mo_shutdown_34 : decode jq_Mo_shutdown.2.1 34 = .ok (.goto 4, 3) := by decide +kernel
theorem jd_Mo_shutdown_37 : decode jq_Mo_shutdown.2.1 37 = .ok (.iload_n 1, 1) := by decide +kernel
theorem jd_Mo_shutdown_38 : decode jq_Mo_shutdown.2.1 38 = .ok (.istore_n 1, 1) := by decide +kernel
theorem jd_Mo_shutdown_39 : decode jq_Mo_shutdown.2.1 39 = .ok (.iinc 2 (-1), 3) := by decide +kernel
theorem jd_Mo_shutdown_42 : decode jq_Mo_shutdown.2.1 42 = .ok (.goto (-28), 3) := by decide +kernel
theorem jd_Mo_shutdown_45 : decode jq_Mo_shutdown.2.1 45 = .ok (.iload_n 1, 1) := by decide +kernel
theorem jd_Mo_shutdown_46 : decode jq_Mo_shutdown.2.1 46 = .ok (.ireturn, 1) := by decide +kernel
theorem jd_Mo_stub_0 : decode jq_Mo_stub.2.1 0 = .ok (.aload_n 0, 1) := by decide +kernel
theorem jd_Mo_stub_1 : decode jq_Mo_stub.2.1 1 = .ok (.iload_n 1, 1) := by decide +kernel
theorem jd_Mo_stub_2 : decode jq_Mo_stub.2.1 2 = .ok (.invokevirtual 230, 3) := by decide +kernel
theorem jd_Mo_stub_5 : decode jq_Mo_stub.2.1 5 = .ok (.ifCond .eq 12, 3) := by decide +kernel
theorem jd_Mo_stub_8 : decode jq_Mo_stub.2.1 8 = .ok (.aload_n 0, 1) := by decide +kernel
theorem jd_Mo_stub_9 : decode jq_Mo_stub.2.1 9 = .ok (.getfield 68, 3) := by decide +kernel
theorem jd_Mo_stub_12 : decode jq_Mo_stub.2.1 12 = .ok (.iload_n 1, 1) := by decide +kernel
theorem jd_Mo_stub_13 : decode jq_Mo_stub.2.1 13 = .ok (.baload, 1) := by decide +kernel
theorem jd_Mo_stub_14 : decode jq_Mo_stub.2.1 14 = .ok (.ifCond .ne 5, 3) := by decide +kernel
theorem jd_Mo_stub_17 : decode jq_Mo_stub.2.1 17 = .ok (.iconst 0, 1) := by decide +kernel
theorem jd_Mo_stub_18 : decode jq_Mo_stub.2.1 18 = .ok (.ireturn, 1) := by decide +kernel
theorem jd_Mo_stub_19 : decode jq_Mo_stub.2.1 19 = .ok (.aload_n 0, 1) := by decide +kernel
theorem jd_Mo_stub_20 : decode jq_Mo_stub.2.1 20 = .ok (.getfield 77, 3) := by decide +kernel
theorem jd_Mo_stub_23 : decode jq_Mo_stub.2.1 23 = .ok (.iload_n 1, 1) := by decide +kernel
theorem jd_Mo_stub_24 : decode jq_Mo_stub.2.1 24 = .ok (.iload_n 2, 1) := by decide +kernel
theorem jd_Mo_stub_25 : decode jq_Mo_stub.2.1 25 = .ok (.iastore, 1) := by decide +kernel
theorem jd_Mo_stub_26 : decode jq_Mo_stub.2.1 26 = .ok (.iconst 1, 1) := by decide +kernel
theorem jd_Mo_stub_27 : decode jq_Mo_stub.2.1 27 = .ok (.ireturn, 1) := by decide +kernel
theorem jd_Mo_wired_0 : decode jq_Mo_wired.2.1 0 = .ok (.aload_n 0, 1) := by decide +kernel
theorem jd_Mo_wired_1 : decode jq_Mo_wired.2.1 1 = .ok (.iload_n 1, 1) := by decide +kernel
theorem jd_Mo_wired_2 : decode jq_Mo_wired.2.1 2 = .ok (.invokevirtual 230, 3) := by decide +kernel
theorem jd_Mo_wired_5 : decode jq_Mo_wired.2.1 5 = .ok (.ifCond .eq 25, 3) := by decide +kernel
theorem jd_Mo_wired_8 : decode jq_Mo_wired.2.1 8 = .ok (.iload_n 2, 1) := by decide +kernel
theorem jd_Mo_wired_9 : decode jq_Mo_wired.2.1 9 = .ok (.iconst 0, 1) := by decide +kernel
theorem jd_Mo_wired_10 : decode jq_Mo_wired.2.1 10 = .ok (.iconst 2, 1) := by decide +kernel
theorem jd_Mo_wired_11 : decode jq_Mo_wired.2.1 11 = .ok (.invokestatic 108, 3) := by decide +kernel
theorem jd_Mo_wired_14 : decode jq_Mo_wired.2.1 14 = .ok (.ifCond .eq 16, 3) := by decide +kernel
theorem jd_Mo_wired_17 : decode jq_Mo_wired.2.1 17 = .ok (.aload_n 0, 1) := by decide +kernel
theorem jd_Mo_wired_18 : decode jq_Mo_wired.2.1 18 = .ok (.getfield 74, 3) := by decide +kernel
theorem jd_Mo_wired_21 : decode jq_Mo_wired.2.1 21 = .ok (.iconst 3, 1) := by decide +kernel
theorem jd_Mo_wired_22 : decode jq_Mo_wired.2.1 22 = .ok (.iload_n 1, 1) := by decide +kernel
theorem jd_Mo_wired_23 : decode jq_Mo_wired.2.1 23 = .ok (.imul, 1) := by decide +kernel
theorem jd_Mo_wired_24 : decode jq_Mo_wired.2.1 24 = .ok (.iload_n 2, 1) := by decide +kernel
theorem jd_Mo_wired_25 : decode jq_Mo_wired.2.1 25 = .ok (.iadd, 1) := by decide +kernel
theorem jd_Mo_wired_26 : decode jq_Mo_wired.2.1 26 = .ok (.iaload, 1) := by decide +kernel
theorem jd_Mo_wired_27 : decode jq_Mo_wired.2.1 27 = .ok (.goto 4, 3) := by decide +kernel
theorem jd_Mo_wired_30 : decode jq_Mo_wired.2.1 30 = .ok (.iconst (-1), 1) := by decide +kernel
theorem jd_Mo_wired_31 : decode jq_Mo_wired.2.1 31 = .ok (.ireturn, 1) := by decide +kernel
theorem jd_La_law_0 : decode jq_La_law.2.1 0 = .ok (.new 7, 3) := by decide +kernel
theorem jd_La_law_3 : decode jq_La_law.2.1 3 = .ok (.dup, 1) := by decide +kernel
theorem jd_La_law_4 : decode jq_La_law.2.1 4 = .ok (.aload_n 0, 1) := by decide +kernel
theorem jd_La_law_5 : decode jq_La_law.2.1 5 = .ok (.iconst 0, 1) := by decide +kernel
theorem jd_La_law_6 : decode jq_La_law.2.1 6 = .ok (.invokestatic 9, 3) := by decide +kernel
theorem jd_La_law_9 : decode jq_La_law.2.1 9 = .ok (.invokespecial 15, 3) := by decide +kernel
theorem jd_La_law_12 : decode jq_La_law.2.1 12 = .ok (.astore_n 1, 1) := by decide +kernel
theorem jd_La_law_13 : decode jq_La_law.2.1 13 = .ok (.new 18, 3) := by decide +kernel
theorem jd_La_law_16 : decode jq_La_law.2.1 16 = .ok (.dup, 1) := by decide +kernel
theorem jd_La_law_17 : decode jq_La_law.2.1 17 = .ok (.aload_n 0, 1) := by decide +kernel
theorem jd_La_law_18 : decode jq_La_law.2.1 18 = .ok (.iconst 0, 1) := by decide +kernel
theorem jd_La_law_19 : decode jq_La_law.2.1 19 = .ok (.invokestatic 9, 3) := by decide +kernel
theorem jd_La_law_22 : decode jq_La_law.2.1 22 = .ok (.invokespecial 20, 3) := by decide +kernel
theorem jd_La_law_25 : decode jq_La_law.2.1 25 = .ok (.astore_n 2, 1) := by decide +kernel
theorem jd_La_law_26 : decode jq_La_law.2.1 26 = .ok (.iconst 1, 1) := by decide +kernel
theorem jd_La_law_27 : decode jq_La_law.2.1 27 = .ok (.istore_n 3, 1) := by decide +kernel
theorem jd_La_law_28 : decode jq_La_law.2.1 28 = .ok (.iload_n 3, 1) := by decide +kernel
theorem jd_La_law_29 : decode jq_La_law.2.1 29 = .ok (.aload_n 0, 1) := by decide +kernel
theorem jd_La_law_30 : decode jq_La_law.2.1 30 = .ok (.arraylength, 1) := by decide +kernel
theorem jd_La_law_31 : decode jq_La_law.2.1 31 = .ok (.iconst 5, 1) := by decide +kernel
theorem jd_La_law_32 : decode jq_La_law.2.1 32 = .ok (.isub, 1) := by decide +kernel
theorem jd_La_law_33 : decode jq_La_law.2.1 33 = .ok (.if_icmp .gt 694, 3) := by decide +kernel
theorem jd_La_law_36 : decode jq_La_law.2.1 36 = .ok (.aload_n 0, 1) := by decide +kernel
theorem jd_La_law_37 : decode jq_La_law.2.1 37 = .ok (.iload_n 3, 1) := by decide +kernel
theorem jd_La_law_38 : decode jq_La_law.2.1 38 = .ok (.iaload, 1) := by decide +kernel
theorem jd_La_law_39 : decode jq_La_law.2.1 39 = .ok (.bipush 31, 2) := by decide +kernel
theorem jd_La_law_41 : decode jq_La_law.2.1 41 = .ok (.iand, 1) := by decide +kernel
theorem jd_La_law_42 : decode jq_La_law.2.1 42 = .ok (.tableswitch 679 0 18 #[90, 123, 176, 229, 282, 305, 328, 351, 364, 417, 451, 484, 518, 541, 574, 597, 620, 643, 656], 90) := by decide +kernel
theorem jd_La_law_132 : decode jq_La_law.2.1 132 = .ok (.aload_n 1, 1) := by decide +kernel
theorem jd_La_law_133 : decode jq_La_law.2.1 133 = .ok (.aload_n 0, 1) := by decide +kernel
theorem jd_La_law_134 : decode jq_La_law.2.1 134 = .ok (.iload_n 3, 1) := by decide +kernel
theorem jd_La_law_135 : decode jq_La_law.2.1 135 = .ok (.iconst 1, 1) := by decide +kernel
theorem jd_La_law_136 : decode jq_La_law.2.1 136 = .ok (.iadd, 1) := by decide +kernel
theorem jd_La_law_137 : decode jq_La_law.2.1 137 = .ok (.iaload, 1) := by decide +kernel
theorem jd_La_law_138 : decode jq_La_law.2.1 138 = .ok (.aload_n 0, 1) := by decide +kernel
theorem jd_La_law_139 : decode jq_La_law.2.1 139 = .ok (.iload_n 3, 1) := by decide +kernel
theorem jd_La_law_140 : decode jq_La_law.2.1 140 = .ok (.iconst 2, 1) := by decide +kernel
theorem jd_La_law_141 : decode jq_La_law.2.1 141 = .ok (.iadd, 1) := by decide +kernel
theorem jd_La_law_142 : decode jq_La_law.2.1 142 = .ok (.iaload, 1) := by decide +kernel
theorem jd_La_law_143 : decode jq_La_law.2.1 143 = .ok (.invokevirtual 21, 3) := by decide +kernel
theorem jd_La_law_146 : decode jq_La_law.2.1 146 = .ok (.aload_n 2, 1) := by decide +kernel
theorem jd_La_law_147 : decode jq_La_law.2.1 147 = .ok (.aload_n 0, 1) := by decide +kernel
theorem jd_La_law_148 : decode jq_La_law.2.1 148 = .ok (.iload_n 3, 1) := by decide +kernel
theorem jd_La_law_149 : decode jq_La_law.2.1 149 = .ok (.iconst 1, 1) := by decide +kernel
theorem jd_La_law_150 : decode jq_La_law.2.1 150 = .ok (.iadd, 1) := by decide +kernel
theorem jd_La_law_151 : decode jq_La_law.2.1 151 = .ok (.iaload, 1) := by decide +kernel
theorem jd_La_law_152 : decode jq_La_law.2.1 152 = .ok (.aload_n 0, 1) := by decide +kernel
theorem jd_La_law_153 : decode jq_La_law.2.1 153 = .ok (.iload_n 3, 1) := by decide +kernel
theorem jd_La_law_154 : decode jq_La_law.2.1 154 = .ok (.iconst 2, 1) := by decide +kernel
theorem jd_La_law_155 : decode jq_La_law.2.1 155 = .ok (.iadd, 1) := by decide +kernel
theorem jd_La_law_156 : decode jq_La_law.2.1 156 = .ok (.iaload, 1) := by decide +kernel
theorem jd_La_law_157 : decode jq_La_law.2.1 157 = .ok (.invokevirtual 25, 3) := by decide +kernel
theorem jd_La_law_160 : decode jq_La_law.2.1 160 = .ok (.if_icmp .eq 561, 3) := by decide +kernel
theorem jd_La_law_163 : decode jq_La_law.2.1 163 = .ok (.iconst 0, 1) := by decide +kernel
theorem jd_La_law_164 : decode jq_La_law.2.1 164 = .ok (.ireturn, 1) := by decide +kernel
theorem jd_La_law_165 : decode jq_La_law.2.1 165 = .ok (.aload_n 1, 1) := by decide +kernel
theorem jd_La_law_166 : decode jq_La_law.2.1 166 = .ok (.aload_n 0, 1) := by decide +kernel
theorem jd_La_law_167 : decode jq_La_law.2.1 167 = .ok (.iload_n 3, 1) := by decide +kernel
theorem jd_La_law_168 : decode jq_La_law.2.1 168 = .ok (.iconst 1, 1) := by decide +kernel
theorem jd_La_law_169 : decode jq_La_law.2.1 169 = .ok (.iadd, 1) := by decide +kernel
theorem jd_La_law_170 : decode jq_La_law.2.1 170 = .ok (.iaload, 1) := by decide +kernel
theorem jd_La_law_171 : decode jq_La_law.2.1 171 = .ok (.aload_n 0, 1) := by decide +kernel
theorem jd_La_law_172 : decode jq_La_law.2.1 172 = .ok (.iload_n 3, 1) := by decide +kernel
theorem jd_La_law_173 : decode jq_La_law.2.1 173 = .ok (.iconst 2, 1) := by decide +kernel
theorem jd_La_law_174 : decode jq_La_law.2.1 174 = .ok (.iadd, 1) := by decide +kernel
theorem jd_La_law_175 : decode jq_La_law.2.1 175 = .ok (.iaload, 1) := by decide +kernel
theorem jd_La_law_176 : decode jq_La_law.2.1 176 = .ok (.aload_n 0, 1) := by decide +kernel
theorem jd_La_law_177 : decode jq_La_law.2.1 177 = .ok (.iload_n 3, 1) := by decide +kernel
theorem jd_La_law_178 : decode jq_La_law.2.1 178 = .ok (.iconst 3, 1) := by decide +kernel
theorem jd_La_law_179 : decode jq_La_law.2.1 179 = .ok (.iadd, 1) := by decide +kernel
theorem jd_La_law_180 : decode jq_La_law.2.1 180 = .ok (.iaload, 1) := by decide +kernel
theorem jd_La_law_181 : decode jq_La_law.2.1 181 = .ok (.aload_n 0, 1) := by decide +kernel
theorem jd_La_law_182 : decode jq_La_law.2.1 182 = .ok (.iload_n 3, 1) := by decide +kernel
theorem jd_La_law_183 : decode jq_La_law.2.1 183 = .ok (.iconst 4, 1) := by decide +kernel
theorem jd_La_law_184 : decode jq_La_law.2.1 184 = .ok (.iadd, 1) := by decide +kernel
theorem jd_La_law_185 : decode jq_La_law.2.1 185 = .ok (.iaload, 1) := by decide +kernel
theorem jd_La_law_186 : decode jq_La_law.2.1 186 = .ok (.invokevirtual 26, 3) := by decide +kernel
theorem jd_La_law_189 : decode jq_La_law.2.1 189 = .ok (.aload_n 2, 1) := by decide +kernel
theorem jd_La_law_190 : decode jq_La_law.2.1 190 = .ok (.aload_n 0, 1) := by decide +kernel
theorem jd_La_law_191 : decode jq_La_law.2.1 191 = .ok (.iload_n 3, 1) := by decide +kernel
theorem jd_La_law_192 : decode jq_La_law.2.1 192 = .ok (.iconst 1, 1) := by decide +kernel
theorem jd_La_law_193 : decode jq_La_law.2.1 193 = .ok (.iadd, 1) := by decide +kernel
theorem jd_La_law_194 : decode jq_La_law.2.1 194 = .ok (.iaload, 1) := by decide +kernel
theorem jd_La_law_195 : decode jq_La_law.2.1 195 = .ok (.aload_n 0, 1) := by decide +kernel
theorem jd_La_law_196 : decode jq_La_law.2.1 196 = .ok (.iload_n 3, 1) := by decide +kernel
theorem jd_La_law_197 : decode jq_La_law.2.1 197 = .ok (.iconst 2, 1) := by decide +kernel
theorem jd_La_law_198 : decode jq_La_law.2.1 198 = .ok (.iadd, 1) := by decide +kernel
theorem jd_La_law_199 : decode jq_La_law.2.1 199 = .ok (.iaload, 1) := by decide +kernel
theorem jd_La_law_200 : decode jq_La_law.2.1 200 = .ok (.aload_n 0, 1) := by decide +kernel
theorem jd_La_law_201 : decode jq_La_law.2.1 201 = .ok (.iload_n 3, 1) := by decide +kernel
theorem jd_La_law_202 : decode jq_La_law.2.1 202 = .ok (.iconst 3, 1) := by decide +kernel
theorem jd_La_law_203 : decode jq_La_law.2.1 203 = .ok (.iadd, 1) := by decide +kernel
theorem jd_La_law_204 : decode jq_La_law.2.1 204 = .ok (.iaload, 1) := by decide +kernel
theorem jd_La_law_205 : decode jq_La_law.2.1 205 = .ok (.aload_n 0, 1) := by decide +kernel
theorem jd_La_law_206 : decode jq_La_law.2.1 206 = .ok (.iload_n 3, 1) := by decide +kernel
theorem jd_La_law_207 : decode jq_La_law.2.1 207 = .ok (.iconst 4, 1) := by decide +kernel
theorem jd_La_law_208 : decode jq_La_law.2.1 208 = .ok (.iadd, 1) := by decide +kernel
theorem jd_La_law_209 : decode jq_La_law.2.1 209 = .ok (.iaload, 1) := by decide +kernel
theorem jd_La_law_210 : decode jq_La_law.2.1 210 = .ok (.invokevirtual 30, 3) := by decide +kernel
theorem jd_La_law_213 : decode jq_La_law.2.1 213 = .ok (.if_icmp .eq 508, 3) := by decide +kernel
theorem jd_La_law_216 : decode jq_La_law.2.1 216 = .ok (.iconst 0, 1) := by decide +kernel
theorem jd_La_law_217 : decode jq_La_law.2.1 217 = .ok (.ireturn, 1) := by decide +kernel
theorem jd_La_law_218 : decode jq_La_law.2.1 218 = .ok (.aload_n 1, 1) := by decide +kernel
theorem jd_La_law_219 : decode jq_La_law.2.1 219 = .ok (.aload_n 0, 1) := by decide +kernel
theorem jd_La_law_220 : decode jq_La_law.2.1 220 = .ok (.iload_n 3, 1) := by decide +kernel
theorem jd_La_law_221 : decode jq_La_law.2.1 221 = .ok (.iconst 1, 1) := by decide +kernel
theorem jd_La_law_222 : decode jq_La_law.2.1 222 = .ok (.iadd, 1) := by decide +kernel
theorem jd_La_law_223 : decode jq_La_law.2.1 223 = .ok (.iaload, 1) := by decide +kernel
theorem jd_La_law_224 : decode jq_La_law.2.1 224 = .ok (.aload_n 0, 1) := by decide +kernel
theorem jd_La_law_225 : decode jq_La_law.2.1 225 = .ok (.iload_n 3, 1) := by decide +kernel
theorem jd_La_law_226 : decode jq_La_law.2.1 226 = .ok (.iconst 2, 1) := by decide +kernel
theorem jd_La_law_227 : decode jq_La_law.2.1 227 = .ok (.iadd, 1) := by decide +kernel
theorem jd_La_law_228 : decode jq_La_law.2.1 228 = .ok (.iaload, 1) := by decide +kernel
theorem jd_La_law_229 : decode jq_La_law.2.1 229 = .ok (.aload_n 0, 1) := by decide +kernel
theorem jd_La_law_230 : decode jq_La_law.2.1 230 = .ok (.iload_n 3, 1) := by decide +kernel
theorem jd_La_law_231 : decode jq_La_law.2.1 231 = .ok (.iconst 3, 1) := by decide +kernel
theorem jd_La_law_232 : decode jq_La_law.2.1 232 = .ok (.iadd, 1) := by decide +kernel
theorem jd_La_law_233 : decode jq_La_law.2.1 233 = .ok (.iaload, 1) := by decide +kernel
theorem jd_La_law_234 : decode jq_La_law.2.1 234 = .ok (.aload_n 0, 1) := by decide +kernel
theorem jd_La_law_235 : decode jq_La_law.2.1 235 = .ok (.iload_n 3, 1) := by decide +kernel
theorem jd_La_law_236 : decode jq_La_law.2.1 236 = .ok (.iconst 4, 1) := by decide +kernel
theorem jd_La_law_237 : decode jq_La_law.2.1 237 = .ok (.iadd, 1) := by decide +kernel
theorem jd_La_law_238 : decode jq_La_law.2.1 238 = .ok (.iaload, 1) := by decide +kernel
theorem jd_La_law_239 : decode jq_La_law.2.1 239 = .ok (.invokevirtual 31, 3) := by decide +kernel
theorem jd_La_law_242 : decode jq_La_law.2.1 242 = .ok (.aload_n 2, 1) := by decide +kernel
theorem jd_La_law_243 : decode jq_La_law.2.1 243 = .ok (.aload_n 0, 1) := by decide +kernel
theorem jd_La_law_244 : decode jq_La_law.2.1 244 = .ok (.iload_n 3, 1) := by decide +kernel
theorem jd_La_law_245 : decode jq_La_law.2.1 245 = .ok (.iconst 1, 1) := by decide +kernel
theorem jd_La_law_246 : decode jq_La_law.2.1 246 = .ok (.iadd, 1) := by decide +kernel
theorem jd_La_law_247 : decode jq_La_law.2.1 247 = .ok (.iaload, 1) := by decide +kernel
