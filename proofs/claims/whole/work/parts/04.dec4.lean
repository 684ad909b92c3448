/-! What each instruction is. -/
theorem jd_Mo_destroy_22 : decode jq_Mo_destroy.2.1 22 = .ok (.getfield 71, 3) := by decide +kernel
theorem jd_Mo_destroy_25 : decode jq_Mo_destroy.2.1 25 = .ok (.iload_n 2, 1) := by decide +kernel
theorem jd_Mo_destroy_26 : decode jq_Mo_destroy.2.1 26 = .ok (.baload, 1) := by decide +kernel
theorem jd_Mo_destroy_27 : decode jq_Mo_destroy.2.1 27 = .ok (.ifCond .eq 6, 3) := by decide +kernel
theorem jd_Mo_destroy_30 : decode jq_Mo_destroy.2.1 30 = .ok (.goto 35, 3) := by decide +kernel
theorem jd_Mo_destroy_33 : decode jq_Mo_destroy.2.1 33 = .ok (.aload_n 0, 1) := by decide +kernel
theorem jd_Mo_destroy_34 : decode jq_Mo_destroy.2.1 34 = .ok (.getfield 71, 3) := by decide +kernel
theorem jd_Mo_destroy_37 : decode jq_Mo_destroy.2.1 37 = .ok (.iload_n 2, 1) := by decide +kernel
theorem jd_Mo_destroy_38 : decode jq_Mo_destroy.2.1 38 = .ok (.iconst 1, 1) := by decide +kernel
theorem jd_Mo_destroy_39 : decode jq_Mo_destroy.2.1 39 = .ok (.bastore, 1) := by decide +kernel
theorem jd_Mo_destroy_40 : decode jq_Mo_destroy.2.1 40 = .ok (.aload_n 0, 1) := by decide +kernel
theorem jd_Mo_destroy_41 : decode jq_Mo_destroy.2.1 41 = .ok (.iload_n 1, 1) := by decide +kernel
theorem jd_Mo_destroy_42 : decode jq_Mo_destroy.2.1 42 = .ok (.aload_n 0, 1) := by decide +kernel
theorem jd_Mo_destroy_43 : decode jq_Mo_destroy.2.1 43 = .ok (.getfield 65, 3) := by decide +kernel
theorem jd_Mo_destroy_46 : decode jq_Mo_destroy.2.1 46 = .ok (.iload_n 2, 1) := by decide +kernel
theorem jd_Mo_destroy_47 : decode jq_Mo_destroy.2.1 47 = .ok (.iaload, 1) := by decide +kernel
theorem jd_Mo_destroy_48 : decode jq_Mo_destroy.2.1 48 = .ok (.invokevirtual 148, 3) := by decide +kernel
theorem jd_Mo_destroy_51 : decode jq_Mo_destroy.2.1 51 = .ok (.ifCond .ne 14, 3) := by decide +kernel
theorem jd_Mo_destroy_54 : decode jq_Mo_destroy.2.1 54 = .ok (.aload_n 0, 1) := by decide +kernel
theorem jd_Mo_destroy_55 : decode jq_Mo_destroy.2.1 55 = .ok (.iconst 4, 1) := by decide +kernel
theorem jd_Mo_destroy_56 : decode jq_Mo_destroy.2.1 56 = .ok (.aload_n 0, 1) := by decide +kernel
theorem jd_Mo_destroy_57 : decode jq_Mo_destroy.2.1 57 = .ok (.getfield 65, 3) := by decide +kernel
theorem jd_Mo_destroy_60 : decode jq_Mo_destroy.2.1 60 = .ok (.iload_n 2, 1) := by decide +kernel
theorem jd_Mo_destroy_61 : decode jq_Mo_destroy.2.1 61 = .ok (.iaload, 1) := by decide +kernel
theorem jd_Mo_destroy_62 : decode jq_Mo_destroy.2.1 62 = .ok (.invokevirtual 144, 3) := by decide +kernel
theorem jd_Mo_destroy_65 : decode jq_Mo_destroy.2.1 65 = .ok (.iinc 2 (-1), 3) := by decide +kernel
theorem jd_Mo_destroy_68 : decode jq_Mo_destroy.2.1 68 = .ok (.goto (-61), 3) := by decide +kernel
theorem jd_Mo_destroy_71 : decode jq_Mo_destroy.2.1 71 = .ok (.return_, 1) := by decide +kernel
theorem jd_Mo_closeOne_0 : decode jq_Mo_closeOne.2.1 0 = .ok (.aload_n 0, 1) := by decide +kernel
theorem jd_Mo_closeOne_1 : decode jq_Mo_closeOne.2.1 1 = .ok (.iload_n 1, 1) := by decide +kernel
theorem jd_Mo_closeOne_2 : decode jq_Mo_closeOne.2.1 2 = .ok (.invokevirtual 198, 3) := by decide +kernel
theorem jd_Mo_closeOne_5 : decode jq_Mo_closeOne.2.1 5 = .ok (.aload_n 0, 1) := by decide +kernel
theorem jd_Mo_closeOne_6 : decode jq_Mo_closeOne.2.1 6 = .ok (.getfield 56, 3) := by decide +kernel
theorem jd_Mo_closeOne_9 : decode jq_Mo_closeOne.2.1 9 = .ok (.iload_n 1, 1) := by decide +kernel
theorem jd_Mo_closeOne_10 : decode jq_Mo_closeOne.2.1 10 = .ok (.iconst 0, 1) := by decide +kernel
theorem jd_Mo_closeOne_11 : decode jq_Mo_closeOne.2.1 11 = .ok (.bastore, 1) := by decide +kernel
theorem jd_Mo_closeOne_12 : decode jq_Mo_closeOne.2.1 12 = .ok (.aload_n 0, 1) := by decide +kernel
theorem jd_Mo_closeOne_13 : decode jq_Mo_closeOne.2.1 13 = .ok (.iconst 5, 1) := by decide +kernel
theorem jd_Mo_closeOne_14 : decode jq_Mo_closeOne.2.1 14 = .ok (.iload_n 1, 1) := by decide +kernel
theorem jd_Mo_closeOne_15 : decode jq_Mo_closeOne.2.1 15 = .ok (.invokevirtual 144, 3) := by decide +kernel
theorem jd_Mo_closeOne_18 : decode jq_Mo_closeOne.2.1 18 = .ok (.return_, 1) := by decide +kernel
theorem jd_Mo_close_0 : decode jq_Mo_close.2.1 0 = .ok (.iconst 1, 1) := by decide +kernel
theorem jd_Mo_close_1 : decode jq_Mo_close.2.1 1 = .ok (.istore_n 2, 1) := by decide +kernel
theorem jd_Mo_close_2 : decode jq_Mo_close.2.1 2 = .ok (.aload_n 0, 1) := by decide +kernel
theorem jd_Mo_close_3 : decode jq_Mo_close.2.1 3 = .ok (.iload_n 1, 1) := by decide +kernel
theorem jd_Mo_close_4 : decode jq_Mo_close.2.1 4 = .ok (.invokevirtual 214, 3) := by decide +kernel
theorem jd_Mo_close_7 : decode jq_Mo_close.2.1 7 = .ok (.istore_n 3, 1) := by decide +kernel
theorem jd_Mo_close_8 : decode jq_Mo_close.2.1 8 = .ok (.iload_n 3, 1) := by decide +kernel
theorem jd_Mo_close_9 : decode jq_Mo_close.2.1 9 = .ok (.ifCond .lt 51, 3) := by decide +kernel
theorem jd_Mo_close_12 : decode jq_Mo_close.2.1 12 = .ok (.aload_n 0, 1) := by decide +kernel
theorem jd_Mo_close_13 : decode jq_Mo_close.2.1 13 = .ok (.iload_n 3, 1) := by decide +kernel
theorem jd_Mo_close_14 : decode jq_Mo_close.2.1 14 = .ok (.invokevirtual 214, 3) := by decide +kernel
theorem jd_Mo_close_17 : decode jq_Mo_close.2.1 17 = .ok (.istore 4, 2) := by decide +kernel
theorem jd_Mo_close_19 : decode jq_Mo_close.2.1 19 = .ok (.iload 4, 2) := by decide +kernel
theorem jd_Mo_close_21 : decode jq_Mo_close.2.1 21 = .ok (.ifCond .lt 22, 3) := by decide +kernel
theorem jd_Mo_close_24 : decode jq_Mo_close.2.1 24 = .ok (.aload_n 0, 1) := by decide +kernel
theorem jd_Mo_close_25 : decode jq_Mo_close.2.1 25 = .ok (.iload 4, 2) := by decide +kernel
theorem jd_Mo_close_27 : decode jq_Mo_close.2.1 27 = .ok (.invokevirtual 217, 3) := by decide +kernel
theorem jd_Mo_close_30 : decode jq_Mo_close.2.1 30 = .ok (.iinc 2 1, 3) := by decide +kernel
theorem jd_Mo_close_33 : decode jq_Mo_close.2.1 33 = .ok (.aload_n 0, 1) := by decide +kernel
theorem jd_Mo_close_34 : decode jq_Mo_close.2.1 34 = .ok (.iload_n 3, 1) := by decide +kernel
theorem jd_Mo_close_35 : decode jq_Mo_close.2.1 35 = .ok (.invokevirtual 214, 3) := by decide +kernel
theorem jd_Mo_close_38 : decode jq_Mo_close.2.1 38 = .ok (.istore 4, 2) := by decide +kernel
theorem jd_Mo_close_40 : decode jq_Mo_close.2.1 40 = .ok (.goto (-21), 3) := by decide +kernel
theorem jd_Mo_close_43 : decode jq_Mo_close.2.1 43 = .ok (.aload_n 0, 1) := by decide +kernel
theorem jd_Mo_close_44 : decode jq_Mo_close.2.1 44 = .ok (.iload_n 3, 1) := by decide +kernel
theorem jd_Mo_close_45 : decode jq_Mo_close.2.1 45 = .ok (.invokevirtual 217, 3) := by decide +kernel
theorem jd_Mo_close_48 : decode jq_Mo_close.2.1 48 = .ok (.iinc 2 1, 3) := by decide +kernel
theorem jd_Mo_close_51 : decode jq_Mo_close.2.1 51 = .ok (.aload_n 0, 1) := by decide +kernel
theorem jd_Mo_close_52 : decode jq_Mo_close.2.1 52 = .ok (.iload_n 1, 1) := by decide +kernel
theorem jd_Mo_close_53 : decode jq_Mo_close.2.1 53 = .ok (.invokevirtual 214, 3) := by decide +kernel
theorem jd_Mo_close_56 : decode jq_Mo_close.2.1 56 = .ok (.istore_n 3, 1) := by decide +kernel
theorem jd_Mo_close_57 : decode jq_Mo_close.2.1 57 = .ok (.goto (-49), 3) := by decide +kernel
theorem jd_Mo_close_60 : decode jq_Mo_close.2.1 60 = .ok (.aload_n 0, 1) := by decide +kernel
theorem jd_Mo_close_61 : decode jq_Mo_close.2.1 61 = .ok (.iload_n 1, 1) := by decide +kernel
theorem jd_Mo_close_62 : decode jq_Mo_close.2.1 62 = .ok (.invokevirtual 217, 3) := by decide +kernel
theorem jd_Mo_close_65 : decode jq_Mo_close.2.1 65 = .ok (.iload_n 2, 1) := by decide +kernel
theorem jd_Mo_close_66 : decode jq_Mo_close.2.1 66 = .ok (.ireturn, 1) := by decide +kernel
theorem jd_Mo_dirty_0 : decode jq_Mo_dirty.2.1 0 = .ok (.aload_n 0, 1) := by decide +kernel
theorem jd_Mo_dirty_1 : decode jq_Mo_dirty.2.1 1 = .ok (.iload_n 1, 1) := by decide +kernel
theorem jd_Mo_dirty_2 : decode jq_Mo_dirty.2.1 2 = .ok (.invokevirtual 125, 3) := by decide +kernel
theorem jd_Mo_dirty_5 : decode jq_Mo_dirty.2.1 5 = .ok (.ifCond .ne 5, 3) := by decide +kernel
theorem jd_Mo_dirty_8 : decode jq_Mo_dirty.2.1 8 = .ok (.iconst (-1), 1) := by decide +kernel
theorem jd_Mo_dirty_9 : decode jq_Mo_dirty.2.1 9 = .ok (.ireturn, 1) := by decide +kernel
theorem jd_Mo_dirty_10 : decode jq_Mo_dirty.2.1 10 = .ok (.aload_n 0, 1) := by decide +kernel
theorem jd_Mo_dirty_11 : decode jq_Mo_dirty.2.1 11 = .ok (.iload_n 1, 1) := by decide +kernel
theorem jd_Mo_dirty_12 : decode jq_Mo_dirty.2.1 12 = .ok (.invokevirtual 227, 3) := by decide +kernel
theorem jd_Mo_dirty_15 : decode jq_Mo_dirty.2.1 15 = .ok (.istore_n 2, 1) := by decide +kernel
theorem jd_Mo_dirty_16 : decode jq_Mo_dirty.2.1 16 = .ok (.iload_n 2, 1) := by decide +kernel
theorem jd_Mo_dirty_17 : decode jq_Mo_dirty.2.1 17 = .ok (.ifCond .ge 7, 3) := by decide +kernel
theorem jd_Mo_dirty_20 : decode jq_Mo_dirty.2.1 20 = .ok (.iconst 0, 1) := by decide +kernel
theorem jd_Mo_dirty_21 : decode jq_Mo_dirty.2.1 21 = .ok (.goto 8, 3) := by decide +kernel
theorem jd_Mo_dirty_24 : decode jq_Mo_dirty.2.1 24 = .ok (.aload_n 0, 1) := by decide +kernel
theorem jd_Mo_dirty_25 : decode jq_Mo_dirty.2.1 25 = .ok (.iload_n 2, 1) := by decide +kernel
theorem jd_Mo_dirty_26 : decode jq_Mo_dirty.2.1 26 = .ok (.invokevirtual 211, 3) := by decide +kernel
theorem jd_Mo_dirty_29 : decode jq_Mo_dirty.2.1 29 = .ok (.ireturn, 1) := by decide +kernel
theorem jd_Mo_event_0 : decode jq_Mo_event.2.1 0 = .ok (.iload_n 1, 1) := by decide +kernel
theorem jd_Mo_event_1 : decode jq_Mo_event.2.1 1 = .ok (.iconst 0, 1) := by decide +kernel
theorem jd_Mo_event_2 : decode jq_Mo_event.2.1 2 = .ok (.bipush 31, 2) := by decide +kernel
theorem jd_Mo_event_4 : decode jq_Mo_event.2.1 4 = .ok (.invokestatic 108, 3) := by decide +kernel
theorem jd_Mo_event_7 : decode jq_Mo_event.2.1 7 = .ok (.ifCond .eq 11, 3) := by decide +kernel
theorem jd_Mo_event_10 : decode jq_Mo_event.2.1 10 = .ok (.iload_n 1, 1) := by decide +kernel
theorem jd_Mo_event_11 : decode jq_Mo_event.2.1 11 = .ok (.aload_n 0, 1) := by decide +kernel
theorem jd_Mo_event_12 : decode jq_Mo_event.2.1 12 = .ok (.getfield 105, 3) := by decide +kernel
theorem jd_Mo_event_15 : decode jq_Mo_event.2.1 15 = .ok (.if_icmp .lt 7, 3) := by decide +kernel
theorem jd_Mo_event_18 : decode jq_Mo_event.2.1 18 = .ok (.iconst (-1), 1) := by decide +kernel
theorem jd_Mo_event_19 : decode jq_Mo_event.2.1 19 = .ok (.goto 19, 3) := by decide +kernel
theorem jd_Mo_event_22 : decode jq_Mo_event.2.1 22 = .ok (.aload_n 0, 1) := by decide +kernel
theorem jd_Mo_event_23 : decode jq_Mo_event.2.1 23 = .ok (.getfield 98, 3) := by decide +kernel
theorem jd_Mo_event_26 : decode jq_Mo_event.2.1 26 = .ok (.aload_n 0, 1) := by decide +kernel
theorem jd_Mo_event_27 : decode jq_Mo_event.2.1 27 = .ok (.getfield 105, 3) := by decide +kernel
theorem jd_Mo_event_30 : decode jq_Mo_event.2.1 30 = .ok (.iconst 1, 1) := by decide +kernel
theorem jd_Mo_event_31 : decode jq_Mo_event.2.1 31 = .ok (.isub, 1) := by decide +kernel
theorem jd_Mo_event_32 : decode jq_Mo_event.2.1 32 = .ok (.iload_n 1, 1) := by decide +kernel
theorem jd_Mo_event_33 : decode jq_Mo_event.2.1 33 = .ok (.isub, 1) := by decide +kernel
theorem jd_Mo_event_34 : decode jq_Mo_event.2.1 34 = .ok (.bipush 32, 2) := by decide +kernel
theorem jd_Mo_event_36 : decode jq_Mo_event.2.1 36 = .ok (.irem, 1) := by decide +kernel
theorem jd_Mo_event_37 : decode jq_Mo_event.2.1 37 = .ok (.iaload, 1) := by decide +kernel
theorem jd_Mo_event_38 : decode jq_Mo_event.2.1 38 = .ok (.ireturn, 1) := by decide +kernel
theorem jd_Mo_events_0 : decode jq_Mo_events.2.1 0 = .ok (.aload_n 0, 1) := by decide +kernel
theorem jd_Mo_events_1 : decode jq_Mo_events.2.1 1 = .ok (.getfield 105, 3) := by decide +kernel
theorem jd_Mo_events_4 : decode jq_Mo_events.2.1 4 = .ok (.ireturn, 1) := by decide +kernel
theorem jd_Mo_is_0 : decode jq_Mo_is.2.1 0 = .ok (.iload_n 1, 1) := by decide +kernel
theorem jd_Mo_is_1 : decode jq_Mo_is.2.1 1 = .ok (.iload_n 2, 1) := by decide +kernel
theorem jd_Mo_is_2 : decode jq_Mo_is.2.1 2 = .ok (.if_icmp .eq 17, 3) := by decide +kernel
theorem jd_Mo_is_5 : decode jq_Mo_is.2.1 5 = .ok (.aload_n 0, 1) := by decide +kernel
theorem jd_Mo_is_6 : decode jq_Mo_is.2.1 6 = .ok (.getfield 7, 3) := by decide +kernel
theorem jd_Mo_is_9 : decode jq_Mo_is.2.1 9 = .ok (.bipush 6, 2) := by decide +kernel
theorem jd_Mo_is_11 : decode jq_Mo_is.2.1 11 = .ok (.iload_n 1, 1) := by decide +kernel
theorem jd_Mo_is_12 : decode jq_Mo_is.2.1 12 = .ok (.imul, 1) := by decide +kernel
theorem jd_Mo_is_13 : decode jq_Mo_is.2.1 13 = .ok (.iload_n 2, 1) := by decide +kernel
theorem jd_Mo_is_14 : decode jq_Mo_is.2.1 14 = .ok (.iadd, 1) := by decide +kernel
theorem jd_Mo_is_15 : decode jq_Mo_is.2.1 15 = .ok (.baload, 1) := by decide +kernel
theorem jd_Mo_is_16 : decode jq_Mo_is.2.1 16 = .ok (.ifCond .eq 7, 3) := by decide +kernel
theorem jd_Mo_is_19 : decode jq_Mo_is.2.1 19 = .ok (.iconst 1, 1) := by decide +kernel
theorem jd_Mo_is_20 : decode jq_Mo_is.2.1 20 = .ok (.goto 4, 3) := by decide +kernel
theorem jd_Mo_is_23 : decode jq_Mo_is.2.1 23 = .ok (.iconst 0, 1) := by decide +kernel
theorem jd_Mo_is_24 : decode jq_Mo_is.2.1 24 = .ok (.ireturn, 1) := by decide +kernel
theorem jd_Mo_extend_0 : decode jq_Mo_extend.2.1 0 = .ok (.iload_n 1, 1) := by decide +kernel
theorem jd_Mo_extend_1 : decode jq_Mo_extend.2.1 1 = .ok (.iconst 0, 1) := by decide +kernel
theorem jd_Mo_extend_2 : decode jq_Mo_extend.2.1 2 = .ok (.iconst 5, 1) := by decide +kernel
theorem jd_Mo_extend_3 : decode jq_Mo_extend.2.1 3 = .ok (.invokestatic 108, 3) := by decide +kernel
theorem jd_Mo_extend_6 : decode jq_Mo_extend.2.1 6 = .ok (.ifCond .eq 37, 3) := by decide +kernel
theorem jd_Mo_extend_9 : decode jq_Mo_extend.2.1 9 = .ok (.iload_n 2, 1) := by decide +kernel
theorem jd_Mo_extend_10 : decode jq_Mo_extend.2.1 10 = .ok (.iconst 0, 1) := by decide +kernel
theorem jd_Mo_extend_11 : decode jq_Mo_extend.2.1 11 = .ok (.iconst 5, 1) := by decide +kernel
theorem jd_Mo_extend_12 : decode jq_Mo_extend.2.1 12 = .ok (.invokestatic 108, 3) := by decide +kernel
theorem jd_Mo_extend_15 : decode jq_Mo_extend.2.1 15 = .ok (.ifCond .eq 28, 3) := by decide +kernel
theorem jd_Mo_extend_18 : decode jq_Mo_extend.2.1 18 = .ok (.aload_n 0, 1) := by decide +kernel
theorem jd_Mo_extend_19 : decode jq_Mo_extend.2.1 19 = .ok (.iload_n 1, 1) := by decide +kernel
theorem jd_Mo_extend_20 : decode jq_Mo_extend.2.1 20 = .ok (.iload_n 2, 1) := by decide +kernel
theorem jd_Mo_extend_21 : decode jq_Mo_extend.2.1 21 = .ok (.invokevirtual 112, 3) := by decide +kernel
theorem jd_Mo_extend_24 : decode jq_Mo_extend.2.1 24 = .ok (.ifCond .ne 19, 3) := by decide +kernel
theorem jd_Mo_extend_27 : decode jq_Mo_extend.2.1 27 = .ok (.aload_n 0, 1) := by decide +kernel
theorem jd_Mo_extend_28 : decode jq_Mo_extend.2.1 28 = .ok (.iload_n 2, 1) := by decide +kernel
theorem jd_Mo_extend_29 : decode jq_Mo_extend.2.1 29 = .ok (.iload_n 1, 1) := by decide +kernel
theorem jd_Mo_extend_30 : decode jq_Mo_extend.2.1 30 = .ok (.invokevirtual 112, 3) := by decide +kernel
theorem jd_Mo_extend_33 : decode jq_Mo_extend.2.1 33 = .ok (.ifCond .ne 10, 3) := by decide +kernel
theorem jd_Mo_extend_36 : decode jq_Mo_extend.2.1 36 = .ok (.aload_n 0, 1) := by decide +kernel
theorem jd_Mo_extend_37 : decode jq_Mo_extend.2.1 37 = .ok (.getfield 116, 3) := by decide +kernel
theorem jd_Mo_extend_40 : decode jq_Mo_extend.2.1 40 = .ok (.ifCond .le 5, 3) := by decide +kernel
theorem jd_Mo_extend_43 : decode jq_Mo_extend.2.1 43 = .ok (.iconst 0, 1) := by decide +kernel
theorem jd_Mo_extend_44 : decode jq_Mo_extend.2.1 44 = .ok (.ireturn, 1) := by decide +kernel
theorem jd_Mo_extend_45 : decode jq_Mo_extend.2.1 45 = .ok (.iconst 0, 1) := by decide +kernel
theorem jd_Mo_extend_46 : decode jq_Mo_extend.2.1 46 = .ok (.istore_n 3, 1) := by decide +kernel
theorem jd_Mo_extend_47 : decode jq_Mo_extend.2.1 47 = .ok (.iload_n 3, 1) := by decide +kernel
theorem jd_Mo_extend_48 : decode jq_Mo_extend.2.1 48 = .ok (.bipush 6, 2) := by decide +kernel
theorem jd_Mo_extend_50 : decode jq_Mo_extend.2.1 50 = .ok (.if_icmp .ge 88, 3) := by decide +kernel
theorem jd_Mo_extend_53 : decode jq_Mo_extend.2.1 53 = .ok (.iconst 0, 1) := by decide +kernel
theorem jd_Mo_extend_54 : decode jq_Mo_extend.2.1 54 = .ok (.istore 4, 2) := by decide +kernel
theorem jd_Mo_extend_56 : decode jq_Mo_extend.2.1 56 = .ok (.iload 4, 2) := by decide +kernel
theorem jd_Mo_extend_58 : decode jq_Mo_extend.2.1 58 = .ok (.bipush 6, 2) := by decide +kernel
theorem jd_Mo_extend_60 : decode jq_Mo_extend.2.1 60 = .ok (.if_icmp .ge 72, 3) := by decide +kernel
theorem jd_Mo_extend_63 : decode jq_Mo_extend.2.1 63 = .ok (.aload_n 0, 1) := by decide +kernel
theorem jd_Mo_extend_64 : decode jq_Mo_extend.2.1 64 = .ok (.iload_n 3, 1) := by decide +kernel
theorem jd_Mo_extend_65 : decode jq_Mo_extend.2.1 65 = .ok (.iload_n 1, 1) := by decide +kernel
theorem jd_Mo_extend_66 : decode jq_Mo_extend.2.1 66 = .ok (.invokevirtual 112, 3) := by decide +kernel
theorem jd_Mo_extend_69 : decode jq_Mo_extend.2.1 69 = .ok (.ifCond .eq 17, 3) := by decide +kernel
theorem jd_Mo_extend_72 : decode jq_Mo_extend.2.1 72 = .ok (.aload_n 0, 1) := by decide +kernel
theorem jd_Mo_extend_73 : decode jq_Mo_extend.2.1 73 = .ok (.iload_n 2, 1) := by decide +kernel
theorem jd_Mo_extend_74 : decode jq_Mo_extend.2.1 74 = .ok (.iload 4, 2) := by decide +kernel
theorem jd_Mo_extend_76 : decode jq_Mo_extend.2.1 76 = .ok (.invokevirtual 112, 3) := by decide +kernel
theorem jd_Mo_extend_79 : decode jq_Mo_extend.2.1 79 = .ok (.ifCond .eq 7, 3) := by decide +kernel
theorem jd_Mo_extend_82 : decode jq_Mo_extend.2.1 82 = .ok (.iconst 1, 1) := by decide +kernel
theorem jd_Mo_extend_83 : decode jq_Mo_extend.2.1 83 = .ok (.goto 4, 3) := by decide +kernel
theorem jd_Mo_extend_86 : decode jq_Mo_extend.2.1 86 = .ok (.iconst 0, 1) := by decide +kernel
theorem jd_Mo_extend_87 : decode jq_Mo_extend.2.1 87 = .ok (.istore 5, 2) := by decide +kernel
theorem jd_Mo_extend_89 : decode jq_Mo_extend.2.1 89 = .ok (.aload_n 0, 1) := by decide +kernel
theorem jd_Mo_extend_90 : decode jq_Mo_extend.2.1 90 = .ok (.getfield 7, 3) := by decide +kernel
theorem jd_Mo_extend_93 : decode jq_Mo_extend.2.1 93 = .ok (.bipush 6, 2) := by decide +kernel
theorem jd_Mo_extend_95 : decode jq_Mo_extend.2.1 95 = .ok (.iload_n 3, 1) := by decide +kernel
theorem jd_Mo_extend_96 : decode jq_Mo_extend.2.1 96 = .ok (.imul, 1) := by decide +kernel
theorem jd_Mo_extend_97 : decode jq_Mo_extend.2.1 97 = .ok (.iload 4, 2) := by decide +kernel
theorem jd_Mo_extend_99 : decode jq_Mo_extend.2.1 99 = .ok (.iadd, 1) := by decide +kernel
theorem jd_Mo_extend_100 : decode jq_Mo_extend.2.1 100 = .ok (.aload_n 0, 1) := by decide +kernel
theorem jd_Mo_extend_101 : decode jq_Mo_extend.2.1 101 = .ok (.getfield 7, 3) := by decide +kernel
theorem jd_Mo_extend_104 : decode jq_Mo_extend.2.1 104 = .ok (.bipush 6, 2) := by decide +kernel
theorem jd_Mo_extend_106 : decode jq_Mo_extend.2.1 106 = .ok (.iload_n 3, 1) := by decide +kernel
theorem jd_Mo_extend_107 : decode jq_Mo_extend.2.1 107 = .ok (.imul, 1) := by decide +kernel
theorem jd_Mo_extend_108 : decode jq_Mo_extend.2.1 108 = .ok (.iload 4, 2) := by decide +kernel
theorem jd_Mo_extend_110 : decode jq_Mo_extend.2.1 110 = .ok (.iadd, 1) := by decide +kernel
theorem jd_Mo_extend_111 : decode jq_Mo_extend.2.1 111 = .ok (.baload, 1) := by decide +kernel
theorem jd_Mo_extend_112 : decode jq_Mo_extend.2.1 112 = .ok (.ifCond .ne 8, 3) := by decide +kernel
theorem jd_Mo_extend_115 : decode jq_Mo_extend.2.1 115 = .ok (.iload 5, 2) := by decide +kernel
theorem jd_Mo_extend_117 : decode jq_Mo_extend.2.1 117 = .ok (.ifCond .eq 7, 3) := by decide +kernel
theorem jd_Mo_extend_120 : decode jq_Mo_extend.2.1 120 = .ok (.iconst 1, 1) := by decide +kernel
theorem jd_Mo_extend_121 : decode jq_Mo_extend.2.1 121 = .ok (.goto 4, 3) := by decide +kernel
theorem jd_Mo_extend_124 : decode jq_Mo_extend.2.1 124 = .ok (.iconst 0, 1) := by decide +kernel
theorem jd_Mo_extend_125 : decode jq_Mo_extend.2.1 125 = .ok (.bastore, 1) := by decide +kernel
theorem jd_Mo_extend_126 : decode jq_Mo_extend.2.1 126 = .ok (.iinc 4 1, 3) := by decide +kernel
theorem jd_Mo_extend_129 : decode jq_Mo_extend.2.1 129 = .ok (.goto (-73), 3) := by decide +kernel
theorem jd_Mo_extend_132 : decode jq_Mo_extend.2.1 132 = .ok (.iinc 3 1, 3) := by decide +kernel
theorem jd_Mo_extend_135 : decode jq_Mo_extend.2.1 135 = .ok (.goto (-88), 3) := by decide +kernel
theorem jd_Mo_extend_138 : decode jq_Mo_extend.2.1 138 = .ok (.iconst 1, 1) := by decide +kernel
theorem jd_Mo_extend_139 : decode jq_Mo_extend.2.1 139 = .ok (.ireturn, 1) := by decide +kernel
theorem jd_Mo_failures_0 : decode jq_Mo_failures.2.1 0 = .ok (.aload_n 0, 1) := by decide +kernel
theorem jd_Mo_failures_1 : decode jq_Mo_failures.2.1 1 = .ok (.iload_n 1, 1) := by decide +kernel
theorem jd_Mo_failures_2 : decode jq_Mo_failures.2.1 2 = .ok (.invokevirtual 125, 3) := by decide +kernel
theorem jd_Mo_failures_5 : decode jq_Mo_failures.2.1 5 = .ok (.ifCond .eq 16, 3) := by decide +kernel
theorem jd_Mo_failures_8 : decode jq_Mo_failures.2.1 8 = .ok (.aload_n 0, 1) := by decide +kernel
theorem jd_Mo_failures_9 : decode jq_Mo_failures.2.1 9 = .ok (.getfield 47, 3) := by decide +kernel
theorem jd_Mo_failures_12 : decode jq_Mo_failures.2.1 12 = .ok (.aload_n 0, 1) := by decide +kernel
theorem jd_Mo_failures_13 : decode jq_Mo_failures.2.1 13 = .ok (.iload_n 1, 1) := by decide +kernel
theorem jd_Mo_failures_14 : decode jq_Mo_failures.2.1 14 = .ok (.invokevirtual 172, 3) := by decide +kernel
theorem jd_Mo_failures_17 : decode jq_Mo_failures.2.1 17 = .ok (.iaload, 1) := by decide +kernel
theorem jd_Mo_failures_18 : decode jq_Mo_failures.2.1 18 = .ok (.goto 4, 3) := by decide +kernel
theorem jd_Mo_failures_21 : decode jq_Mo_failures.2.1 21 = .ok (.iconst (-1), 1) := by decide +kernel
theorem jd_Mo_failures_22 : decode jq_Mo_failures.2.1 22 = .ok (.ireturn, 1) := by decide +kernel
theorem jd_Mo_asked_0 : decode jq_Mo_asked.2.1 0 = .ok (.iload_n 0, 1) := by decide +kernel
theorem jd_Mo_asked_1 : decode jq_Mo_asked.2.1 1 = .ok (.iconst 0, 1) := by decide +kernel
theorem jd_Mo_asked_2 : decode jq_Mo_asked.2.1 2 = .ok (.iconst 5, 1) := by decide +kernel
theorem jd_Mo_asked_3 : decode jq_Mo_asked.2.1 3 = .ok (.invokestatic 108, 3) := by decide +kernel
theorem jd_Mo_asked_6 : decode jq_Mo_asked.2.1 6 = .ok (.ifCond .eq 26, 3) := by decide +kernel
theorem jd_Mo_asked_9 : decode jq_Mo_asked.2.1 9 = .ok (.iload_n 1, 1) := by decide +kernel
theorem jd_Mo_asked_10 : decode jq_Mo_asked.2.1 10 = .ok (.iconst 0, 1) := by decide +kernel
theorem jd_Mo_asked_11 : decode jq_Mo_asked.2.1 11 = .ok (.iconst 3, 1) := by decide +kernel
theorem jd_Mo_asked_12 : decode jq_Mo_asked.2.1 12 = .ok (.invokestatic 108, 3) := by decide +kernel
theorem jd_Mo_asked_15 : decode jq_Mo_asked.2.1 15 = .ok (.ifCond .eq 17, 3) := by decide +kernel
theorem jd_Mo_asked_18 : decode jq_Mo_asked.2.1 18 = .ok (.iload_n 2, 1) := by decide +kernel
theorem jd_Mo_asked_19 : decode jq_Mo_asked.2.1 19 = .ok (.iconst (-1), 1) := by decide +kernel
theorem jd_Mo_asked_20 : decode jq_Mo_asked.2.1 20 = .ok (.bipush 9, 2) := by decide +kernel
theorem jd_Mo_asked_22 : decode jq_Mo_asked.2.1 22 = .ok (.invokestatic 108, 3) := by decide +kernel
theorem jd_Mo_asked_25 : decode jq_Mo_asked.2.1 25 = .ok (.ifCond .eq 7, 3) := by decide +kernel
theorem jd_Mo_asked_28 : decode jq_Mo_asked.2.1 28 = .ok (.iconst 1, 1) := by decide +kernel
theorem jd_Mo_asked_29 : decode jq_Mo_asked.2.1 29 = .ok (.goto 4, 3) := by decide +kernel
theorem jd_Mo_asked_32 : decode jq_Mo_asked.2.1 32 = .ok (.iconst 0, 1) := by decide +kernel
theorem jd_Mo_asked_33 : decode jq_Mo_asked.2.1 33 = .ok (.ireturn, 1) := by decide +kernel
theorem jd_Mo_isIn_0 : decode jq_Mo_isIn.2.1 0 = .ok (.aload_n 0, 1) := by decide +kernel
theorem jd_Mo_isIn_1 : decode jq_Mo_isIn.2.1 1 = .ok (.getfield 38, 3) := by decide +kernel
theorem jd_Mo_isIn_4 : decode jq_Mo_isIn.2.1 4 = .ok (.aload_n 0, 1) := by decide +kernel
theorem jd_Mo_isIn_5 : decode jq_Mo_isIn.2.1 5 = .ok (.getfield 50, 3) := by decide +kernel
theorem jd_Mo_isIn_8 : decode jq_Mo_isIn.2.1 8 = .ok (.iload_n 1, 1) := by decide +kernel
theorem jd_Mo_isIn_9 : decode jq_Mo_isIn.2.1 9 = .ok (.iaload, 1) := by decide +kernel
theorem jd_Mo_isIn_10 : decode jq_Mo_isIn.2.1 10 = .ok (.iaload, 1) := by decide +kernel
theorem jd_Mo_isIn_11 : decode jq_Mo_isIn.2.1 11 = .ok (.iload_n 2, 1) := by decide +kernel
theorem jd_Mo_isIn_12 : decode jq_Mo_isIn.2.1 12 = .ok (.ishr, 1) := by decide +kernel
theorem jd_Mo_isIn_13 : decode jq_Mo_isIn.2.1 13 = .ok (.iconst 1, 1) := by decide +kernel
theorem jd_Mo_isIn_14 : decode jq_Mo_isIn.2.1 14 = .ok (.iand, 1) := by decide +kernel
theorem jd_Mo_isIn_15 : decode jq_Mo_isIn.2.1 15 = .ok (.iconst 1, 1) := by decide +kernel
theorem jd_Mo_isIn_16 : decode jq_Mo_isIn.2.1 16 = .ok (.if_icmp .ne 7, 3) := by decide +kernel
theorem jd_Mo_isIn_19 : decode jq_Mo_isIn.2.1 19 = .ok (.iconst 1, 1) := by decide +kernel
theorem jd_Mo_isIn_20 : decode jq_Mo_isIn.2.1 20 = .ok (.goto 4, 3) := by decide +kernel
theorem jd_Mo_isIn_23 : decode jq_Mo_isIn.2.1 23 = .ok (.iconst 0, 1) := by decide +kernel
theorem jd_Mo_isIn_24 : decode jq_Mo_isIn.2.1 24 = .ok (.ireturn, 1) := by decide +kernel
theorem jd_Mo_find_0 : decode jq_Mo_find.2.1 0 = .ok (.iload_n 1, 1) := by decide +kernel
theorem jd_Mo_find_1 : decode jq_Mo_find.2.1 1 = .ok (.istore 5, 2) := by decide +kernel
theorem jd_Mo_find_3 : decode jq_Mo_find.2.1 3 = .ok (.iconst 0, 1) := by decide +kernel
theorem jd_Mo_find_4 : decode jq_Mo_find.2.1 4 = .ok (.istore 6, 2) := by decide +kernel
theorem jd_Mo_find_6 : decode jq_Mo_find.2.1 6 = .ok (.iload 6, 2) := by decide +kernel
theorem jd_Mo_find_8 : decode jq_Mo_find.2.1 8 = .ok (.iconst 4, 1) := by decide +kernel
theorem jd_Mo_find_9 : decode jq_Mo_find.2.1 9 = .ok (.if_icmp .ge 195, 3) := by decide +kernel
theorem jd_Mo_find_12 : decode jq_Mo_find.2.1 12 = .ok (.iload 5, 2) := by decide +kernel
theorem jd_Mo_find_14 : decode jq_Mo_find.2.1 14 = .ok (.ifCond .lt 190, 3) := by decide +kernel
theorem jd_Mo_find_17 : decode jq_Mo_find.2.1 17 = .ok (.iconst 0, 1) := by decide +kernel
theorem jd_Mo_find_18 : decode jq_Mo_find.2.1 18 = .ok (.istore 7, 2) := by decide +kernel
theorem jd_Mo_find_20 : decode jq_Mo_find.2.1 20 = .ok (.iconst (-1), 1) := by decide +kernel
theorem jd_Mo_find_21 : decode jq_Mo_find.2.1 21 = .ok (.istore 8, 2) := by decide +kernel
theorem jd_Mo_find_23 : decode jq_Mo_find.2.1 23 = .ok (.iconst 0, 1) := by decide +kernel
theorem jd_Mo_find_24 : decode jq_Mo_find.2.1 24 = .ok (.istore 9, 2) := by decide +kernel
theorem jd_Mo_find_26 : decode jq_Mo_find.2.1 26 = .ok (.iconst (-1), 1) := by decide +kernel
theorem jd_Mo_find_27 : decode jq_Mo_find.2.1 27 = .ok (.istore 10, 2) := by decide +kernel
theorem jd_Mo_find_29 : decode jq_Mo_find.2.1 29 = .ok (.iconst 0, 1) := by decide +kernel
theorem jd_Mo_find_30 : decode jq_Mo_find.2.1 30 = .ok (.istore 11, 2) := by decide +kernel
theorem jd_Mo_find_32 : decode jq_Mo_find.2.1 32 = .ok (.iconst 0, 1) := by decide +kernel
theorem jd_Mo_find_33 : decode jq_Mo_find.2.1 33 = .ok (.istore 12, 2) := by decide +kernel
theorem jd_Mo_find_35 : decode jq_Mo_find.2.1 35 = .ok (.iload 12, 2) := by decide +kernel
theorem jd_Mo_find_37 : decode jq_Mo_find.2.1 37 = .ok (.aload_n 0, 1) := by decide +kernel
theorem jd_Mo_find_38 : decode jq_Mo_find.2.1 38 = .ok (.getfield 119, 3) := by decide +kernel
theorem jd_Mo_find_41 : decode jq_Mo_find.2.1 41 = .ok (.if_icmp .ge 98, 3) := by decide +kernel
theorem jd_Mo_find_44 : decode jq_Mo_find.2.1 44 = .ok (.aload_n 0, 1) := by decide +kernel
theorem jd_Mo_find_45 : decode jq_Mo_find.2.1 45 = .ok (.iload 5, 2) := by decide +kernel
theorem jd_Mo_find_47 : decode jq_Mo_find.2.1 47 = .ok (.iload 12, 2) := by decide +kernel
theorem jd_Mo_find_49 : decode jq_Mo_find.2.1 49 = .ok (.invokevirtual 138, 3) := by decide +kernel
theorem jd_Mo_find_52 : decode jq_Mo_find.2.1 52 = .ok (.ifCond .eq 81, 3) := by decide +kernel
theorem jd_Mo_find_55 : decode jq_Mo_find.2.1 55 = .ok (.aload_n 0, 1) := by decide +kernel
theorem jd_Mo_find_56 : decode jq_Mo_find.2.1 56 = .ok (.aload_n 0, 1) := by decide +kernel
theorem jd_Mo_find_57 : decode jq_Mo_find.2.1 57 = .ok (.getfield 13, 3) := by decide +kernel
theorem jd_Mo_find_60 : decode jq_Mo_find.2.1 60 = .ok (.iload 12, 2) := by decide +kernel
theorem jd_Mo_find_62 : decode jq_Mo_find.2.1 62 = .ok (.iaload, 1) := by decide +kernel
theorem jd_Mo_find_63 : decode jq_Mo_find.2.1 63 = .ok (.iload_n 2, 1) := by decide +kernel
theorem jd_Mo_find_64 : decode jq_Mo_find.2.1 64 = .ok (.invokevirtual 112, 3) := by decide +kernel
theorem jd_Mo_find_67 : decode jq_Mo_find.2.1 67 = .ok (.ifCond .eq 66, 3) := by decide +kernel
theorem jd_Mo_find_70 : decode jq_Mo_find.2.1 70 = .ok (.iload_n 3, 1) := by decide +kernel
theorem jd_Mo_find_71 : decode jq_Mo_find.2.1 71 = .ok (.ifCond .eq 17, 3) := by decide +kernel
theorem jd_Mo_find_74 : decode jq_Mo_find.2.1 74 = .ok (.aload_n 0, 1) := by decide +kernel
theorem jd_Mo_find_75 : decode jq_Mo_find.2.1 75 = .ok (.getfield 20, 3) := by decide +kernel
theorem jd_Mo_find_78 : decode jq_Mo_find.2.1 78 = .ok (.iload 12, 2) := by decide +kernel
theorem jd_Mo_find_80 : decode jq_Mo_find.2.1 80 = .ok (.iaload, 1) := by decide +kernel
theorem jd_Mo_find_81 : decode jq_Mo_find.2.1 81 = .ok (.iload_n 3, 1) := by decide +kernel
theorem jd_Mo_find_82 : decode jq_Mo_find.2.1 82 = .ok (.if_icmp .eq 6, 3) := by decide +kernel
theorem jd_Mo_find_85 : decode jq_Mo_find.2.1 85 = .ok (.goto 48, 3) := by decide +kernel
theorem jd_Mo_find_88 : decode jq_Mo_find.2.1 88 = .ok (.iinc 7 1, 3) := by decide +kernel
theorem jd_Mo_find_91 : decode jq_Mo_find.2.1 91 = .ok (.iload 12, 2) := by decide +kernel
theorem jd_Mo_find_93 : decode jq_Mo_find.2.1 93 = .ok (.istore 8, 2) := by decide +kernel
theorem jd_Mo_find_95 : decode jq_Mo_find.2.1 95 = .ok (.iload 11, 2) := by decide +kernel
theorem jd_Mo_find_97 : decode jq_Mo_find.2.1 97 = .ok (.ifCond .ne 10, 3) := by decide +kernel
theorem jd_Mo_find_100 : decode jq_Mo_find.2.1 100 = .ok (.iload 12, 2) := by decide +kernel
theorem jd_Mo_find_102 : decode jq_Mo_find.2.1 102 = .ok (.iload 4, 2) := by decide +kernel
theorem jd_Mo_find_104 : decode jq_Mo_find.2.1 104 = .ok (.if_icmp .ne 7, 3) := by decide +kernel
theorem jd_Mo_find_107 : decode jq_Mo_find.2.1 107 = .ok (.iconst 1, 1) := by decide +kernel
theorem jd_Mo_find_108 : decode jq_Mo_find.2.1 108 = .ok (.goto 4, 3) := by decide +kernel
theorem jd_Mo_find_111 : decode jq_Mo_find.2.1 111 = .ok (.iconst 0, 1) := by decide +kernel
theorem jd_Mo_find_112 : decode jq_Mo_find.2.1 112 = .ok (.istore 11, 2) := by decide +kernel
theorem jd_Mo_find_114 : decode jq_Mo_find.2.1 114 = .ok (.aload_n 0, 1) := by decide +kernel
theorem jd_Mo_find_115 : decode jq_Mo_find.2.1 115 = .ok (.getfield 17, 3) := by decide +kernel
theorem jd_Mo_find_118 : decode jq_Mo_find.2.1 118 = .ok (.iload 12, 2) := by decide +kernel
theorem jd_Mo_find_120 : decode jq_Mo_find.2.1 120 = .ok (.iaload, 1) := by decide +kernel
theorem jd_Mo_find_121 : decode jq_Mo_find.2.1 121 = .ok (.iconst 1, 1) := by decide +kernel
theorem jd_Mo_find_122 : decode jq_Mo_find.2.1 122 = .ok (.iand, 1) := by decide +kernel
theorem jd_Mo_find_123 : decode jq_Mo_find.2.1 123 = .ok (.ifCond .eq 10, 3) := by decide +kernel
theorem jd_Mo_find_126 : decode jq_Mo_find.2.1 126 = .ok (.iinc 9 1, 3) := by decide +kernel
theorem jd_Mo_find_129 : decode jq_Mo_find.2.1 129 = .ok (.iload 12, 2) := by decide +kernel
theorem jd_Mo_find_131 : decode jq_Mo_find.2.1 131 = .ok (.istore 10, 2) := by decide +kernel
theorem jd_Mo_find_133 : decode jq_Mo_find.2.1 133 = .ok (.iinc 12 1, 3) := by decide +kernel
theorem jd_Mo_find_136 : decode jq_Mo_find.2.1 136 = .ok (.goto (-101), 3) := by decide +kernel
theorem jd_Mo_find_139 : decode jq_Mo_find.2.1 139 = .ok (.aload_n 0, 1) := by decide +kernel
theorem jd_Mo_find_140 : decode jq_Mo_find.2.1 140 = .ok (.iload 5, 2) := by decide +kernel
theorem jd_Mo_find_142 : decode jq_Mo_find.2.1 142 = .ok (.putfield 141, 3) := by decide +kernel
theorem jd_Mo_find_145 : decode jq_Mo_find.2.1 145 = .ok (.iload 7, 2) := by decide +kernel
theorem jd_Mo_find_147 : decode jq_Mo_find.2.1 147 = .ok (.iconst 1, 1) := by decide +kernel
theorem jd_Mo_find_148 : decode jq_Mo_find.2.1 148 = .ok (.if_icmp .ne 6, 3) := by decide +kernel
theorem jd_Mo_find_151 : decode jq_Mo_find.2.1 151 = .ok (.iload 8, 2) := by decide +kernel
theorem jd_Mo_find_153 : decode jq_Mo_find.2.1 153 = .ok (.ireturn, 1) := by decide +kernel
theorem jd_Mo_find_154 : decode jq_Mo_find.2.1 154 = .ok (.iload 7, 2) := by decide +kernel
theorem jd_Mo_find_156 : decode jq_Mo_find.2.1 156 = .ok (.iconst 1, 1) := by decide +kernel
theorem jd_Mo_find_157 : decode jq_Mo_find.2.1 157 = .ok (.if_icmp .le 32, 3) := by decide +kernel
theorem jd_Mo_find_160 : decode jq_Mo_find.2.1 160 = .ok (.iload 9, 2) := by decide +kernel
theorem jd_Mo_find_162 : decode jq_Mo_find.2.1 162 = .ok (.iconst 1, 1) := by decide +kernel
theorem jd_Mo_find_163 : decode jq_Mo_find.2.1 163 = .ok (.if_icmp .ne 8, 3) := by decide +kernel
theorem jd_Mo_find_166 : decode jq_Mo_find.2.1 166 = .ok (.iload 10, 2) := by decide +kernel
theorem jd_Mo_find_168 : decode jq_Mo_find.2.1 168 = .ok (.goto 20, 3) := by decide +kernel
theorem jd_Mo_find_171 : decode jq_Mo_find.2.1 171 = .ok (.iload 9, 2) := by decide +kernel
theorem jd_Mo_find_173 : decode jq_Mo_find.2.1 173 = .ok (.ifCond .ne 13, 3) := by decide +kernel
theorem jd_Mo_find_176 : decode jq_Mo_find.2.1 176 = .ok (.iload 11, 2) := by decide +kernel
theorem jd_Mo_find_178 : decode jq_Mo_find.2.1 178 = .ok (.ifCond .eq 8, 3) := by decide +kernel
theorem jd_Mo_find_181 : decode jq_Mo_find.2.1 181 = .ok (.iload 4, 2) := by decide +kernel
theorem jd_Mo_find_183 : decode jq_Mo_find.2.1 183 = .ok (.goto 5, 3) := by decide +kernel
theorem jd_Mo_find_186 : decode jq_Mo_find.2.1 186 = .ok (.bipush (-4), 2) := by decide +kernel
theorem jd_Mo_find_188 : decode jq_Mo_find.2.1 188 = .ok (.ireturn, 1) := by decide +kernel
theorem jd_Mo_find_189 : decode jq_Mo_find.2.1 189 = .ok (.aload_n 0, 1) := by decide +kernel
theorem jd_Mo_find_190 : decode jq_Mo_find.2.1 190 = .ok (.getfield 53, 3) := by decide +kernel
theorem jd_Mo_find_193 : decode jq_Mo_find.2.1 193 = .ok (.iload 5, 2) := by decide +kernel
theorem jd_Mo_find_195 : decode jq_Mo_find.2.1 195 = .ok (.iaload, 1) := by decide +kernel
theorem jd_Mo_find_196 : decode jq_Mo_find.2.1 196 = .ok (.istore 5, 2) := by decide +kernel
theorem jd_Mo_find_198 : decode jq_Mo_find.2.1 198 = .ok (.iinc 6 1, 3) := by decide +kernel
theorem jd_Mo_find_201 : decode jq_Mo_find.2.1 201 = .ok (.goto (-195), 3) := by decide +kernel
theorem jd_Mo_find_204 : decode jq_Mo_find.2.1 204 = .ok (.bipush (-3), 2) := by decide +kernel
theorem jd_Mo_find_206 : decode jq_Mo_find.2.1 206 = .ok (.ireturn, 1) := by decide +kernel
theorem jd_Mo_make_0 : decode jq_Mo_make.2.1 0 = .ok (.aload_n 0, 1) := by decide +kernel
theorem jd_Mo_make_1 : decode jq_Mo_make.2.1 1 = .ok (.getfield 135, 3) := by decide +kernel
theorem jd_Mo_make_4 : decode jq_Mo_make.2.1 4 = .ok (.sipush 200, 3) := by decide +kernel
theorem jd_Mo_make_7 : decode jq_Mo_make.2.1 7 = .ok (.if_icmp .ne 6, 3) := by decide +kernel
theorem jd_Mo_make_10 : decode jq_Mo_make.2.1 10 = .ok (.bipush (-7), 2) := by decide +kernel
theorem jd_Mo_make_12 : decode jq_Mo_make.2.1 12 = .ok (.ireturn, 1) := by decide +kernel
theorem jd_Mo_make_13 : decode jq_Mo_make.2.1 13 = .ok (.aload_n 0, 1) := by decide +kernel
theorem jd_Mo_make_14 : decode jq_Mo_make.2.1 14 = .ok (.getfield 62, 3) := by decide +kernel
theorem jd_Mo_make_17 : decode jq_Mo_make.2.1 17 = .ok (.aload_n 0, 1) := by decide +kernel
theorem jd_Mo_make_18 : decode jq_Mo_make.2.1 18 = .ok (.getfield 135, 3) := by decide +kernel
theorem jd_Mo_make_21 : decode jq_Mo_make.2.1 21 = .ok (.iload_n 1, 1) := by decide +kernel
theorem jd_Mo_make_22 : decode jq_Mo_make.2.1 22 = .ok (.iastore, 1) := by decide +kernel
theorem jd_Mo_make_23 : decode jq_Mo_make.2.1 23 = .ok (.aload_n 0, 1) := by decide +kernel
theorem jd_Mo_make_24 : decode jq_Mo_make.2.1 24 = .ok (.getfield 65, 3) := by decide +kernel
theorem jd_Mo_make_27 : decode jq_Mo_make.2.1 27 = .ok (.aload_n 0, 1) := by decide +kernel
theorem jd_Mo_make_28 : decode jq_Mo_make.2.1 28 = .ok (.getfield 135, 3) := by decide +kernel
theorem jd_Mo_make_31 : decode jq_Mo_make.2.1 31 = .ok (.iload_n 2, 1) := by decide +kernel
theorem jd_Mo_make_32 : decode jq_Mo_make.2.1 32 = .ok (.iastore, 1) := by decide +kernel
theorem jd_Mo_make_33 : decode jq_Mo_make.2.1 33 = .ok (.aload_n 0, 1) := by decide +kernel
theorem jd_Mo_make_34 : decode jq_Mo_make.2.1 34 = .ok (.getfield 68, 3) := by decide +kernel
theorem jd_Mo_make_37 : decode jq_Mo_make.2.1 37 = .ok (.aload_n 0, 1) := by decide +kernel
theorem jd_Mo_make_38 : decode jq_Mo_make.2.1 38 = .ok (.getfield 135, 3) := by decide +kernel
theorem jd_Mo_make_41 : decode jq_Mo_make.2.1 41 = .ok (.iload_n 3, 1) := by decide +kernel
theorem jd_Mo_make_42 : decode jq_Mo_make.2.1 42 = .ok (.ifCond .ge 7, 3) := by decide +kernel
theorem jd_Mo_make_45 : decode jq_Mo_make.2.1 45 = .ok (.iconst 1, 1) := by decide +kernel
theorem jd_Mo_make_46 : decode jq_Mo_make.2.1 46 = .ok (.goto 4, 3) := by decide +kernel
theorem jd_Mo_make_49 : decode jq_Mo_make.2.1 49 = .ok (.iconst 0, 1) := by decide +kernel
theorem jd_Mo_make_50 : decode jq_Mo_make.2.1 50 = .ok (.bastore, 1) := by decide +kernel
theorem jd_Mo_make_51 : decode jq_Mo_make.2.1 51 = .ok (.iconst 0, 1) := by decide +kernel
theorem jd_Mo_make_52 : decode jq_Mo_make.2.1 52 = .ok (.istore 4, 2) := by decide +kernel
theorem jd_Mo_make_54 : decode jq_Mo_make.2.1 54 = .ok (.iload 4, 2) := by decide +kernel
theorem jd_Mo_make_56 : decode jq_Mo_make.2.1 56 = .ok (.iconst 3, 1) := by decide +kernel
theorem jd_Mo_make_57 : decode jq_Mo_make.2.1 57 = .ok (.if_icmp .ge 53, 3) := by decide +kernel
theorem jd_Mo_make_60 : decode jq_Mo_make.2.1 60 = .ok (.aload_n 0, 1) := by decide +kernel
theorem jd_Mo_make_61 : decode jq_Mo_make.2.1 61 = .ok (.getfield 74, 3) := by decide +kernel
theorem jd_Mo_make_64 : decode jq_Mo_make.2.1 64 = .ok (.iconst 3, 1) := by decide +kernel
theorem jd_Mo_make_65 : decode jq_Mo_make.2.1 65 = .ok (.aload_n 0, 1) := by decide +kernel
theorem jd_Mo_make_66 : decode jq_Mo_make.2.1 66 = .ok (.getfield 135, 3) := by decide +kernel
theorem jd_Mo_make_69 : decode jq_Mo_make.2.1 69 = .ok (.imul, 1) := by decide +kernel
theorem jd_Mo_make_70 : decode jq_Mo_make.2.1 70 = .ok (.iload 4, 2) := by decide +kernel
theorem jd_Mo_make_72 : decode jq_Mo_make.2.1 72 = .ok (.iadd, 1) := by decide +kernel
theorem jd_Mo_make_73 : decode jq_Mo_make.2.1 73 = .ok (.iload_n 3, 1) := by decide +kernel
theorem jd_Mo_make_74 : decode jq_Mo_make.2.1 74 = .ok (.ifCond .lt 28, 3) := by decide +kernel
theorem jd_Mo_make_77 : decode jq_Mo_make.2.1 77 = .ok (.iload 4, 2) := by decide +kernel
theorem jd_Mo_make_79 : decode jq_Mo_make.2.1 79 = .ok (.aload_n 0, 1) := by decide +kernel
theorem jd_Mo_make_80 : decode jq_Mo_make.2.1 80 = .ok (.getfield 26, 3) := by decide +kernel
theorem jd_Mo_make_83 : decode jq_Mo_make.2.1 83 = .ok (.iload_n 2, 1) := by decide +kernel
theorem jd_Mo_make_84 : decode jq_Mo_make.2.1 84 = .ok (.iaload, 1) := by decide +kernel
theorem jd_Mo_make_85 : decode jq_Mo_make.2.1 85 = .ok (.if_icmp .ge 17, 3) := by decide +kernel
theorem jd_Mo_make_88 : decode jq_Mo_make.2.1 88 = .ok (.aload_n 0, 1) := by decide +kernel
theorem jd_Mo_make_89 : decode jq_Mo_make.2.1 89 = .ok (.getfield 95, 3) := by decide +kernel
theorem jd_Mo_make_92 : decode jq_Mo_make.2.1 92 = .ok (.iconst 3, 1) := by decide +kernel
theorem jd_Mo_make_93 : decode jq_Mo_make.2.1 93 = .ok (.iload_n 3, 1) := by decide +kernel
theorem jd_Mo_make_94 : decode jq_Mo_make.2.1 94 = .ok (.imul, 1) := by decide +kernel
theorem jd_Mo_make_95 : decode jq_Mo_make.2.1 95 = .ok (.iload 4, 2) := by decide +kernel
theorem jd_Mo_make_97 : decode jq_Mo_make.2.1 97 = .ok (.iadd, 1) := by decide +kernel
theorem jd_Mo_make_98 : decode jq_Mo_make.2.1 98 = .ok (.iaload, 1) := by decide +kernel
theorem jd_Mo_make_99 : decode jq_Mo_make.2.1 99 = .ok (.goto 4, 3) := by decide +kernel
theorem jd_Mo_make_102 : decode jq_Mo_make.2.1 102 = .ok (.iconst (-1), 1) := by decide +kernel
theorem jd_Mo_make_103 : decode jq_Mo_make.2.1 103 = .ok (.iastore, 1) := by decide +kernel
theorem jd_Mo_make_104 : decode jq_Mo_make.2.1 104 = .ok (.iinc 4 1, 3) := by decide +kernel
theorem jd_Mo_make_107 : decode jq_Mo_make.2.1 107 = .ok (.goto (-53), 3) := by decide +kernel
theorem jd_Mo_make_110 : decode jq_Mo_make.2.1 110 = .ok (.aload_n 0, 1) := by decide +kernel
theorem jd_Mo_make_111 : decode jq_Mo_make.2.1 111 = .ok (.dup, 1) := by decide +kernel
theorem jd_Mo_make_112 : decode jq_Mo_make.2.1 112 = .ok (.getfield 135, 3) := by decide +kernel
theorem jd_Mo_make_115 : decode jq_Mo_make.2.1 115 = .ok (.iconst 1, 1) := by decide +kernel
theorem jd_Mo_make_116 : decode jq_Mo_make.2.1 116 = .ok (.iadd, 1) := by decide +kernel
theorem jd_Mo_make_117 : decode jq_Mo_make.2.1 117 = .ok (.putfield 135, 3) := by decide +kernel
theorem jd_Mo_make_120 : decode jq_Mo_make.2.1 120 = .ok (.aload_n 0, 1) := by decide +kernel
theorem jd_Mo_make_121 : decode jq_Mo_make.2.1 121 = .ok (.iconst 1, 1) := by decide +kernel
theorem jd_Mo_make_122 : decode jq_Mo_make.2.1 122 = .ok (.iload_n 2, 1) := by decide +kernel
theorem jd_Mo_make_123 : decode jq_Mo_make.2.1 123 = .ok (.invokevirtual 144, 3) := by decide +kernel
theorem jd_Mo_make_126 : decode jq_Mo_make.2.1 126 = .ok (.aload_n 0, 1) := by decide +kernel
theorem jd_Mo_make_127 : decode jq_Mo_make.2.1 127 = .ok (.getfield 135, 3) := by decide +kernel
theorem jd_Mo_make_130 : decode jq_Mo_make.2.1 130 = .ok (.iconst 1, 1) := by decide +kernel
theorem jd_Mo_make_131 : decode jq_Mo_make.2.1 131 = .ok (.isub, 1) := by decide +kernel
theorem jd_Mo_make_132 : decode jq_Mo_make.2.1 132 = .ok (.ireturn, 1) := by decide +kernel
theorem jd_Mo_beanOf_0 : decode jq_Mo_beanOf.2.1 0 = .ok (.iconst 0, 1) := by decide +kernel
theorem jd_Mo_beanOf_1 : decode jq_Mo_beanOf.2.1 1 = .ok (.istore_n 3, 1) := by decide +kernel
theorem jd_Mo_beanOf_2 : decode jq_Mo_beanOf.2.1 2 = .ok (.iload_n 3, 1) := by decide +kernel
theorem jd_Mo_beanOf_3 : decode jq_Mo_beanOf.2.1 3 = .ok (.aload_n 0, 1) := by decide +kernel
theorem jd_Mo_beanOf_4 : decode jq_Mo_beanOf.2.1 4 = .ok (.getfield 135, 3) := by decide +kernel
theorem jd_Mo_beanOf_7 : decode jq_Mo_beanOf.2.1 7 = .ok (.if_icmp .ge 31, 3) := by decide +kernel
theorem jd_Mo_beanOf_10 : decode jq_Mo_beanOf.2.1 10 = .ok (.aload_n 0, 1) := by decide +kernel
theorem jd_Mo_beanOf_11 : decode jq_Mo_beanOf.2.1 11 = .ok (.getfield 62, 3) := by decide +kernel
theorem jd_Mo_beanOf_14 : decode jq_Mo_beanOf.2.1 14 = .ok (.iload_n 3, 1) := by decide +kernel
theorem jd_Mo_beanOf_15 : decode jq_Mo_beanOf.2.1 15 = .ok (.iaload, 1) := by decide +kernel
theorem jd_Mo_beanOf_16 : decode jq_Mo_beanOf.2.1 16 = .ok (.iload_n 1, 1) := by decide +kernel
theorem jd_Mo_beanOf_17 : decode jq_Mo_beanOf.2.1 17 = .ok (.if_icmp .ne 15, 3) := by decide +kernel
theorem jd_Mo_beanOf_20 : decode jq_Mo_beanOf.2.1 20 = .ok (.aload_n 0, 1) := by decide +kernel
theorem jd_Mo_beanOf_21 : decode jq_Mo_beanOf.2.1 21 = .ok (.getfield 65, 3) := by decide +kernel
theorem jd_Mo_beanOf_24 : decode jq_Mo_beanOf.2.1 24 = .ok (.iload_n 3, 1) := by decide +kernel
theorem jd_Mo_beanOf_25 : decode jq_Mo_beanOf.2.1 25 = .ok (.iaload, 1) := by decide +kernel
theorem jd_Mo_beanOf_26 : decode jq_Mo_beanOf.2.1 26 = .ok (.iload_n 2, 1) := by decide +kernel
theorem jd_Mo_beanOf_27 : decode jq_Mo_beanOf.2.1 27 = .ok (.if_icmp .ne 5, 3) := by decide +kernel
theorem jd_Mo_beanOf_30 : decode jq_Mo_beanOf.2.1 30 = .ok (.iload_n 3, 1) := by decide +kernel
theorem jd_Mo_beanOf_31 : decode jq_Mo_beanOf.2.1 31 = .ok (.ireturn, 1) := by decide +kernel
theorem jd_Mo_beanOf_32 : decode jq_Mo_beanOf.2.1 32 = .ok (.iinc 3 1, 3) := by decide +kernel
theorem jd_Mo_beanOf_35 : decode jq_Mo_beanOf.2.1 35 = .ok (.goto (-33), 3) := by decide +kernel
theorem jd_Mo_beanOf_38 : decode jq_Mo_beanOf.2.1 38 = .ok (.iconst (-1), 1) := by decide +kernel
theorem jd_Mo_beanOf_39 : decode jq_Mo_beanOf.2.1 39 = .ok (.ireturn, 1) := by decide +kernel
theorem jd_Mo_start_0 : decode jq_Mo_start.2.1 0 = .ok (.aload_n 0, 1) := by decide +kernel
theorem jd_Mo_start_1 : decode jq_Mo_start.2.1 1 = .ok (.iload_n 1, 1) := by decide +kernel
theorem jd_Mo_start_2 : decode jq_Mo_start.2.1 2 = .ok (.iload_n 2, 1) := by decide +kernel
theorem jd_Mo_start_3 : decode jq_Mo_start.2.1 3 = .ok (.invokevirtual 148, 3) := by decide +kernel
theorem jd_Mo_start_6 : decode jq_Mo_start.2.1 6 = .ok (.ifCond .eq 7, 3) := by decide +kernel
theorem jd_Mo_start_9 : decode jq_Mo_start.2.1 9 = .ok (.iconst (-1), 1) := by decide +kernel
theorem jd_Mo_start_10 : decode jq_Mo_start.2.1 10 = .ok (.goto 9, 3) := by decide +kernel
theorem jd_Mo_start_13 : decode jq_Mo_start.2.1 13 = .ok (.aload_n 0, 1) := by decide +kernel
theorem jd_Mo_start_14 : decode jq_Mo_start.2.1 14 = .ok (.iload_n 1, 1) := by decide +kernel
theorem jd_Mo_start_15 : decode jq_Mo_start.2.1 15 = .ok (.iload_n 2, 1) := by decide +kernel
theorem jd_Mo_start_16 : decode jq_Mo_start.2.1 16 = .ok (.invokevirtual 151, 3) := by decide +kernel
theorem jd_Mo_start_19 : decode jq_Mo_start.2.1 19 = .ok (.istore_n 3, 1) := by decide +kernel
theorem jd_Mo_start_20 : decode jq_Mo_start.2.1 20 = .ok (.iload_n 3, 1) := by decide +kernel
theorem jd_Mo_start_21 : decode jq_Mo_start.2.1 21 = .ok (.ifCond .lt 5, 3) := by decide +kernel
theorem jd_Mo_start_24 : decode jq_Mo_start.2.1 24 = .ok (.iload_n 3, 1) := by decide +kernel
theorem jd_Mo_start_25 : decode jq_Mo_start.2.1 25 = .ok (.ireturn, 1) := by decide +kernel
theorem jd_Mo_start_26 : decode jq_Mo_start.2.1 26 = .ok (.aload_n 0, 1) := by decide +kernel
theorem jd_Mo_start_27 : decode jq_Mo_start.2.1 27 = .ok (.iload_n 1, 1) := by decide +kernel
theorem jd_Mo_start_28 : decode jq_Mo_start.2.1 28 = .ok (.iload_n 2, 1) := by decide +kernel
theorem jd_Mo_start_29 : decode jq_Mo_start.2.1 29 = .ok (.invokevirtual 132, 3) := by decide +kernel
theorem jd_Mo_start_32 : decode jq_Mo_start.2.1 32 = .ok (.ifCond .eq 11, 3) := by decide +kernel
theorem jd_Mo_start_35 : decode jq_Mo_start.2.1 35 = .ok (.aload_n 0, 1) := by decide +kernel
theorem jd_Mo_start_36 : decode jq_Mo_start.2.1 36 = .ok (.iload_n 1, 1) := by decide +kernel
theorem jd_Mo_start_37 : decode jq_Mo_start.2.1 37 = .ok (.iload_n 2, 1) := by decide +kernel
theorem jd_Mo_start_38 : decode jq_Mo_start.2.1 38 = .ok (.iconst (-1), 1) := by decide +kernel
theorem jd_Mo_start_39 : decode jq_Mo_start.2.1 39 = .ok (.invokevirtual 155, 3) := by decide +kernel
theorem jd_Mo_start_42 : decode jq_Mo_start.2.1 42 = .ok (.ireturn, 1) := by decide +kernel
theorem jd_Mo_start_43 : decode jq_Mo_start.2.1 43 = .ok (.iconst 0, 1) := by decide +kernel
theorem jd_Mo_start_44 : decode jq_Mo_start.2.1 44 = .ok (.istore 4, 2) := by decide +kernel
theorem jd_Mo_start_46 : decode jq_Mo_start.2.1 46 = .ok (.iload 4, 2) := by decide +kernel
theorem jd_Mo_start_48 : decode jq_Mo_start.2.1 48 = .ok (.aload_n 0, 1) := by decide +kernel
theorem jd_Mo_start_49 : decode jq_Mo_start.2.1 49 = .ok (.getfield 159, 3) := by decide +kernel
theorem jd_Mo_start_52 : decode jq_Mo_start.2.1 52 = .ok (.if_icmp .ge 34, 3) := by decide +kernel
theorem jd_Mo_start_55 : decode jq_Mo_start.2.1 55 = .ok (.aload_n 0, 1) := by decide +kernel
theorem jd_Mo_start_56 : decode jq_Mo_start.2.1 56 = .ok (.getfield 86, 3) := by decide +kernel
theorem jd_Mo_start_59 : decode jq_Mo_start.2.1 59 = .ok (.iload 4, 2) := by decide +kernel
theorem jd_Mo_start_61 : decode jq_Mo_start.2.1 61 = .ok (.iaload, 1) := by decide +kernel
theorem jd_Mo_start_62 : decode jq_Mo_start.2.1 62 = .ok (.iload_n 1, 1) := by decide +kernel
theorem jd_Mo_start_63 : decode jq_Mo_start.2.1 63 = .ok (.if_icmp .ne 17, 3) := by decide +kernel
theorem jd_Mo_start_66 : decode jq_Mo_start.2.1 66 = .ok (.aload_n 0, 1) := by decide +kernel
theorem jd_Mo_start_67 : decode jq_Mo_start.2.1 67 = .ok (.getfield 89, 3) := by decide +kernel
theorem jd_Mo_start_70 : decode jq_Mo_start.2.1 70 = .ok (.iload 4, 2) := by decide +kernel
theorem jd_Mo_start_72 : decode jq_Mo_start.2.1 72 = .ok (.iaload, 1) := by decide +kernel
theorem jd_Mo_start_73 : decode jq_Mo_start.2.1 73 = .ok (.iload_n 2, 1) := by decide +kernel
theorem jd_Mo_start_74 : decode jq_Mo_start.2.1 74 = .ok (.if_icmp .ne 6, 3) := by decide +kernel
theorem jd_Mo_start_77 : decode jq_Mo_start.2.1 77 = .ok (.bipush (-5), 2) := by decide +kernel
theorem jd_Mo_start_79 : decode jq_Mo_start.2.1 79 = .ok (.ireturn, 1) := by decide +kernel
theorem jd_Mo_start_80 : decode jq_Mo_start.2.1 80 = .ok (.iinc 4 1, 3) := by decide +kernel
theorem jd_Mo_start_83 : decode jq_Mo_start.2.1 83 = .ok (.goto (-37), 3) := by decide +kernel
theorem jd_Mo_start_86 : decode jq_Mo_start.2.1 86 = .ok (.aload_n 0, 1) := by decide +kernel
theorem jd_Mo_start_87 : decode jq_Mo_start.2.1 87 = .ok (.getfield 86, 3) := by decide +kernel
theorem jd_Mo_start_90 : decode jq_Mo_start.2.1 90 = .ok (.aload_n 0, 1) := by decide +kernel
theorem jd_Mo_start_91 : decode jq_Mo_start.2.1 91 = .ok (.getfield 159, 3) := by decide +kernel
theorem jd_Mo_start_94 : decode jq_Mo_start.2.1 94 = .ok (.iload_n 1, 1) := by decide +kernel
theorem jd_Mo_start_95 : decode jq_Mo_start.2.1 95 = .ok (.iastore, 1) := by decide +kernel
theorem jd_Mo_start_96 : decode jq_Mo_start.2.1 96 = .ok (.aload_n 0, 1) := by decide +kernel
theorem jd_Mo_start_97 : decode jq_Mo_start.2.1 97 = .ok (.getfield 89, 3) := by decide +kernel
theorem jd_Mo_start_100 : decode jq_Mo_start.2.1 100 = .ok (.aload_n 0, 1) := by decide +kernel
theorem jd_Mo_start_101 : decode jq_Mo_start.2.1 101 = .ok (.getfield 159, 3) := by decide +kernel
theorem jd_Mo_start_104 : decode jq_Mo_start.2.1 104 = .ok (.iload_n 2, 1) := by decide +kernel
theorem jd_Mo_start_105 : decode jq_Mo_start.2.1 105 = .ok (.iastore, 1) := by decide +kernel
theorem jd_Mo_start_106 : decode jq_Mo_start.2.1 106 = .ok (.aload_n 0, 1) := by decide +kernel
theorem jd_Mo_start_107 : decode jq_Mo_start.2.1 107 = .ok (.getfield 92, 3) := by decide +kernel
theorem jd_Mo_start_110 : decode jq_Mo_start.2.1 110 = .ok (.aload_n 0, 1) := by decide +kernel
theorem jd_Mo_start_111 : decode jq_Mo_start.2.1 111 = .ok (.getfield 159, 3) := by decide +kernel
theorem jd_Mo_start_114 : decode jq_Mo_start.2.1 114 = .ok (.iconst 0, 1) := by decide +kernel
theorem jd_Mo_start_115 : decode jq_Mo_start.2.1 115 = .ok (.iastore, 1) := by decide +kernel
theorem jd_Mo_start_116 : decode jq_Mo_start.2.1 116 = .ok (.aload_n 0, 1) := by decide +kernel
theorem jd_Mo_start_117 : decode jq_Mo_start.2.1 117 = .ok (.dup, 1) := by decide +kernel
theorem jd_Mo_start_118 : decode jq_Mo_start.2.1 118 = .ok (.getfield 159, 3) := by decide +kernel
theorem jd_Mo_start_121 : decode jq_Mo_start.2.1 121 = .ok (.iconst 1, 1) := by decide +kernel
theorem jd_Mo_start_122 : decode jq_Mo_start.2.1 122 = .ok (.iadd, 1) := by decide +kernel
theorem jd_Mo_start_123 : decode jq_Mo_start.2.1 123 = .ok (.putfield 159, 3) := by decide +kernel
theorem jd_Mo_start_126 : decode jq_Mo_start.2.1 126 = .ok (.iconst (-1), 1) := by decide +kernel
theorem jd_Mo_start_127 : decode jq_Mo_start.2.1 127 = .ok (.ireturn, 1) := by decide +kernel
theorem jd_Mo_supply_0 : decode jq_Mo_supply.2.1 0 = .ok (.aload_n 0, 1) := by decide +kernel
theorem jd_Mo_supply_1 : decode jq_Mo_supply.2.1 1 = .ok (.iconst 0, 1) := by decide +kernel
theorem jd_Mo_supply_2 : decode jq_Mo_supply.2.1 2 = .ok (.putfield 159, 3) := by decide +kernel
theorem jd_Mo_supply_5 : decode jq_Mo_supply.2.1 5 = .ok (.aload_n 0, 1) := by decide +kernel
theorem jd_Mo_supply_6 : decode jq_Mo_supply.2.1 6 = .ok (.iload_n 1, 1) := by decide +kernel
theorem jd_Mo_supply_7 : decode jq_Mo_supply.2.1 7 = .ok (.iload_n 2, 1) := by decide +kernel
theorem jd_Mo_supply_8 : decode jq_Mo_supply.2.1 8 = .ok (.invokevirtual 162, 3) := by decide +kernel
theorem jd_Mo_supply_11 : decode jq_Mo_supply.2.1 11 = .ok (.istore_n 3, 1) := by decide +kernel
theorem jd_Mo_supply_12 : decode jq_Mo_supply.2.1 12 = .ok (.aload_n 0, 1) := by decide +kernel
theorem jd_Mo_supply_13 : decode jq_Mo_supply.2.1 13 = .ok (.getfield 159, 3) := by decide +kernel
theorem jd_Mo_supply_16 : decode jq_Mo_supply.2.1 16 = .ok (.ifCond .le 194, 3) := by decide +kernel
theorem jd_Mo_supply_19 : decode jq_Mo_supply.2.1 19 = .ok (.aload_n 0, 1) := by decide +kernel
theorem jd_Mo_supply_20 : decode jq_Mo_supply.2.1 20 = .ok (.getfield 159, 3) := by decide +kernel
theorem jd_Mo_supply_23 : decode jq_Mo_supply.2.1 23 = .ok (.iconst 1, 1) := by decide +kernel
theorem jd_Mo_supply_24 : decode jq_Mo_supply.2.1 24 = .ok (.isub, 1) := by decide +kernel
theorem jd_Mo_supply_25 : decode jq_Mo_supply.2.1 25 = .ok (.istore 4, 2) := by decide +kernel
theorem jd_Mo_supply_27 : decode jq_Mo_supply.2.1 27 = .ok (.iload_n 3, 1) := by decide +kernel
theorem jd_Mo_supply_28 : decode jq_Mo_supply.2.1 28 = .ok (.iconst (-1), 1) := by decide +kernel
theorem jd_Mo_supply_29 : decode jq_Mo_supply.2.1 29 = .ok (.if_icmp .ge 5, 3) := by decide +kernel
theorem jd_Mo_supply_32 : decode jq_Mo_supply.2.1 32 = .ok (.iload_n 3, 1) := by decide +kernel
theorem jd_Mo_supply_33 : decode jq_Mo_supply.2.1 33 = .ok (.ireturn, 1) := by decide +kernel
theorem jd_Mo_supply_34 : decode jq_Mo_supply.2.1 34 = .ok (.iload_n 3, 1) := by decide +kernel
theorem jd_Mo_supply_35 : decode jq_Mo_supply.2.1 35 = .ok (.ifCond .lt 32, 3) := by decide +kernel
theorem jd_Mo_supply_38 : decode jq_Mo_supply.2.1 38 = .ok (.aload_n 0, 1) := by decide +kernel
theorem jd_Mo_supply_39 : decode jq_Mo_supply.2.1 39 = .ok (.getfield 95, 3) := by decide +kernel
theorem jd_Mo_supply_42 : decode jq_Mo_supply.2.1 42 = .ok (.iconst 3, 1) := by decide +kernel
theorem jd_Mo_supply_43 : decode jq_Mo_supply.2.1 43 = .ok (.iload 4, 2) := by decide +kernel
theorem jd_Mo_supply_45 : decode jq_Mo_supply.2.1 45 = .ok (.imul, 1) := by decide +kernel
theorem jd_Mo_supply_46 : decode jq_Mo_supply.2.1 46 = .ok (.aload_n 0, 1) := by decide +kernel
theorem jd_Mo_supply_47 : decode jq_Mo_supply.2.1 47 = .ok (.getfield 92, 3) := by decide +kernel
theorem jd_Mo_supply_50 : decode jq_Mo_supply.2.1 50 = .ok (.iload 4, 2) := by decide +kernel
theorem jd_Mo_supply_52 : decode jq_Mo_supply.2.1 52 = .ok (.iaload, 1) := by decide +kernel
theorem jd_Mo_supply_53 : decode jq_Mo_supply.2.1 53 = .ok (.iadd, 1) := by decide +kernel
theorem jd_Mo_supply_54 : decode jq_Mo_supply.2.1 54 = .ok (.iload_n 3, 1) := by decide +kernel
theorem jd_Mo_supply_55 : decode jq_Mo_supply.2.1 55 = .ok (.iastore, 1) := by decide +kernel
theorem jd_Mo_supply_56 : decode jq_Mo_supply.2.1 56 = .ok (.aload_n 0, 1) := by decide +kernel
theorem jd_Mo_supply_57 : decode jq_Mo_supply.2.1 57 = .ok (.getfield 92, 3) := by decide +kernel
theorem jd_Mo_supply_60 : decode jq_Mo_supply.2.1 60 = .ok (.iload 4, 2) := by decide +kernel
theorem jd_Mo_supply_62 : decode jq_Mo_supply.2.1 62 = .ok (.dup2, 1) := by decide +kernel
theorem jd_Mo_supply_63 : decode jq_Mo_supply.2.1 63 = .ok (.iaload, 1) := by decide +kernel
theorem jd_Mo_supply_64 : decode jq_Mo_supply.2.1 64 = .ok (.iconst 1, 1) := by decide +kernel
theorem jd_Mo_supply_65 : decode jq_Mo_supply.2.1 65 = .ok (.iadd, 1) := by decide +kernel
theorem jd_Mo_supply_66 : decode jq_Mo_supply.2.1 66 = .ok (.iastore, 1) := by decide +kernel
theorem jd_Mo_supply_67 : decode jq_Mo_supply.2.1 67 = .ok (.aload_n 0, 1) := by decide +kernel
theorem jd_Mo_supply_68 : decode jq_Mo_supply.2.1 68 = .ok (.getfield 89, 3) := by decide +kernel
theorem jd_Mo_supply_71 : decode jq_Mo_supply.2.1 71 = .ok (.iload 4, 2) := by decide +kernel
theorem jd_Mo_supply_73 : decode jq_Mo_supply.2.1 73 = .ok (.iaload, 1) := by decide +kernel
theorem jd_Mo_supply_74 : decode jq_Mo_supply.2.1 74 = .ok (.istore 5, 2) := by decide +kernel
theorem jd_Mo_supply_76 : decode jq_Mo_supply.2.1 76 = .ok (.aload_n 0, 1) := by decide +kernel
theorem jd_Mo_supply_77 : decode jq_Mo_supply.2.1 77 = .ok (.getfield 92, 3) := by decide +kernel
theorem jd_Mo_supply_80 : decode jq_Mo_supply.2.1 80 = .ok (.iload 4, 2) := by decide +kernel
theorem jd_Mo_supply_82 : decode jq_Mo_supply.2.1 82 = .ok (.iaload, 1) := by decide +kernel
theorem jd_Mo_supply_83 : decode jq_Mo_supply.2.1 83 = .ok (.aload_n 0, 1) := by decide +kernel
theorem jd_Mo_supply_84 : decode jq_Mo_supply.2.1 84 = .ok (.getfield 26, 3) := by decide +kernel
theorem jd_Mo_supply_87 : decode jq_Mo_supply.2.1 87 = .ok (.iload 5, 2) := by decide +kernel
theorem jd_Mo_supply_89 : decode jq_Mo_supply.2.1 89 = .ok (.iaload, 1) := by decide +kernel
theorem jd_Mo_supply_90 : decode jq_Mo_supply.2.1 90 = .ok (.if_icmp .ge 75, 3) := by decide +kernel
theorem jd_Mo_supply_93 : decode jq_Mo_supply.2.1 93 = .ok (.iconst 3, 1) := by decide +kernel
theorem jd_Mo_supply_94 : decode jq_Mo_supply.2.1 94 = .ok (.iload 5, 2) := by decide +kernel
theorem jd_Mo_supply_96 : decode jq_Mo_supply.2.1 96 = .ok (.imul, 1) := by decide +kernel
theorem jd_Mo_supply_97 : decode jq_Mo_supply.2.1 97 = .ok (.aload_n 0, 1) := by decide +kernel
theorem jd_Mo_supply_98 : decode jq_Mo_supply.2.1 98 = .ok (.getfield 92, 3) := by decide +kernel
theorem jd_Mo_supply_101 : decode jq_Mo_supply.2.1 101 = .ok (.iload 4, 2) := by decide +kernel
theorem jd_Mo_supply_103 : decode jq_Mo_supply.2.1 103 = .ok (.iaload, 1) := by decide +kernel
theorem jd_Mo_supply_104 : decode jq_Mo_supply.2.1 104 = .ok (.iadd, 1) := by decide +kernel
theorem jd_Mo_supply_105 : decode jq_Mo_supply.2.1 105 = .ok (.istore 6, 2) := by decide +kernel
theorem jd_Mo_supply_107 : decode jq_Mo_supply.2.1 107 = .ok (.aload_n 0, 1) := by decide +kernel
theorem jd_Mo_supply_108 : decode jq_Mo_supply.2.1 108 = .ok (.aload_n 0, 1) := by decide +kernel
theorem jd_Mo_supply_109 : decode jq_Mo_supply.2.1 109 = .ok (.getfield 86, 3) := by decide +kernel
theorem jd_Mo_supply_112 : decode jq_Mo_supply.2.1 112 = .ok (.iload 4, 2) := by decide +kernel
theorem jd_Mo_supply_114 : decode jq_Mo_supply.2.1 114 = .ok (.iaload, 1) := by decide +kernel
theorem jd_Mo_supply_115 : decode jq_Mo_supply.2.1 115 = .ok (.aload_n 0, 1) := by decide +kernel
theorem jd_Mo_supply_116 : decode jq_Mo_supply.2.1 116 = .ok (.getfield 29, 3) := by decide +kernel
theorem jd_Mo_supply_119 : decode jq_Mo_supply.2.1 119 = .ok (.iload 6, 2) := by decide +kernel
theorem jd_Mo_supply_121 : decode jq_Mo_supply.2.1 121 = .ok (.iaload, 1) := by decide +kernel
theorem jd_Mo_supply_122 : decode jq_Mo_supply.2.1 122 = .ok (.aload_n 0, 1) := by decide +kernel
theorem jd_Mo_supply_123 : decode jq_Mo_supply.2.1 123 = .ok (.getfield 32, 3) := by decide +kernel
theorem jd_Mo_supply_126 : decode jq_Mo_supply.2.1 126 = .ok (.iload 6, 2) := by decide +kernel
theorem jd_Mo_supply_128 : decode jq_Mo_supply.2.1 128 = .ok (.iaload, 1) := by decide +kernel
theorem jd_Mo_supply_129 : decode jq_Mo_supply.2.1 129 = .ok (.aload_n 0, 1) := by decide +kernel
theorem jd_Mo_supply_130 : decode jq_Mo_supply.2.1 130 = .ok (.getfield 35, 3) := by decide +kernel
theorem jd_Mo_supply_133 : decode jq_Mo_supply.2.1 133 = .ok (.iload 6, 2) := by decide +kernel
theorem jd_Mo_supply_135 : decode jq_Mo_supply.2.1 135 = .ok (.iaload, 1) := by decide +kernel
theorem jd_Mo_supply_136 : decode jq_Mo_supply.2.1 136 = .ok (.invokevirtual 165, 3) := by decide +kernel
theorem jd_Mo_supply_139 : decode jq_Mo_supply.2.1 139 = .ok (.istore 7, 2) := by decide +kernel
theorem jd_Mo_supply_141 : decode jq_Mo_supply.2.1 141 = .ok (.iload 7, 2) := by decide +kernel
theorem jd_Mo_supply_143 : decode jq_Mo_supply.2.1 143 = .ok (.ifCond .ge 8, 3) := by decide +kernel
theorem jd_Mo_supply_146 : decode jq_Mo_supply.2.1 146 = .ok (.iload 7, 2) := by decide +kernel
theorem jd_Mo_supply_148 : decode jq_Mo_supply.2.1 148 = .ok (.goto 13, 3) := by decide +kernel
theorem jd_Mo_supply_151 : decode jq_Mo_supply.2.1 151 = .ok (.aload_n 0, 1) := by decide +kernel
theorem jd_Mo_supply_152 : decode jq_Mo_supply.2.1 152 = .ok (.aload_n 0, 1) := by decide +kernel
theorem jd_Mo_supply_153 : decode jq_Mo_supply.2.1 153 = .ok (.getfield 141, 3) := by decide +kernel
theorem jd_Mo_supply_156 : decode jq_Mo_supply.2.1 156 = .ok (.iload 7, 2) := by decide +kernel
theorem jd_Mo_supply_158 : decode jq_Mo_supply.2.1 158 = .ok (.invokevirtual 162, 3) := by decide +kernel
theorem jd_Mo_supply_161 : decode jq_Mo_supply.2.1 161 = .ok (.istore_n 3, 1) := by decide +kernel
theorem jd_Mo_supply_162 : decode jq_Mo_supply.2.1 162 = .ok (.goto 45, 3) := by decide +kernel
theorem jd_Mo_supply_165 : decode jq_Mo_supply.2.1 165 = .ok (.aload_n 0, 1) := by decide +kernel
theorem jd_Mo_supply_166 : decode jq_Mo_supply.2.1 166 = .ok (.getfield 17, 3) := by decide +kernel
theorem jd_Mo_supply_169 : decode jq_Mo_supply.2.1 169 = .ok (.iload 5, 2) := by decide +kernel
theorem jd_Mo_supply_171 : decode jq_Mo_supply.2.1 171 = .ok (.iaload, 1) := by decide +kernel
theorem jd_Mo_supply_172 : decode jq_Mo_supply.2.1 172 = .ok (.bipush 8, 2) := by decide +kernel
theorem jd_Mo_supply_174 : decode jq_Mo_supply.2.1 174 = .ok (.iand, 1) := by decide +kernel
theorem jd_Mo_supply_175 : decode jq_Mo_supply.2.1 175 = .ok (.ifCond .eq 6, 3) := by decide +kernel
theorem jd_Mo_supply_178 : decode jq_Mo_supply.2.1 178 = .ok (.bipush (-6), 2) := by decide +kernel
theorem jd_Mo_supply_180 : decode jq_Mo_supply.2.1 180 = .ok (.ireturn, 1) := by decide +kernel
theorem jd_Mo_supply_181 : decode jq_Mo_supply.2.1 181 = .ok (.aload_n 0, 1) := by decide +kernel
theorem jd_Mo_supply_182 : decode jq_Mo_supply.2.1 182 = .ok (.aload_n 0, 1) := by decide +kernel
theorem jd_Mo_supply_183 : decode jq_Mo_supply.2.1 183 = .ok (.getfield 86, 3) := by decide +kernel
theorem jd_Mo_supply_186 : decode jq_Mo_supply.2.1 186 = .ok (.iload 4, 2) := by decide +kernel
theorem jd_Mo_supply_188 : decode jq_Mo_supply.2.1 188 = .ok (.iaload, 1) := by decide +kernel
theorem jd_Mo_supply_189 : decode jq_Mo_supply.2.1 189 = .ok (.iload 5, 2) := by decide +kernel
theorem jd_Mo_supply_191 : decode jq_Mo_supply.2.1 191 = .ok (.iload 4, 2) := by decide +kernel
theorem jd_Mo_supply_193 : decode jq_Mo_supply.2.1 193 = .ok (.invokevirtual 155, 3) := by decide +kernel
theorem jd_Mo_supply_196 : decode jq_Mo_supply.2.1 196 = .ok (.istore_n 3, 1) := by decide +kernel
theorem jd_Mo_supply_197 : decode jq_Mo_supply.2.1 197 = .ok (.aload_n 0, 1) := by decide +kernel
theorem jd_Mo_supply_198 : decode jq_Mo_supply.2.1 198 = .ok (.dup, 1) := by decide +kernel
theorem jd_Mo_supply_199 : decode jq_Mo_supply.2.1 199 = .ok (.getfield 159, 3) := by decide +kernel
theorem jd_Mo_supply_202 : decode jq_Mo_supply.2.1 202 = .ok (.iconst 1, 1) := by decide +kernel
theorem jd_Mo_supply_203 : decode jq_Mo_supply.2.1 203 = .ok (.isub, 1) := by decide +kernel
theorem jd_Mo_supply_204 : decode jq_Mo_supply.2.1 204 = .ok (.putfield 159, 3) := by decide +kernel
theorem jd_Mo_supply_207 : decode jq_Mo_supply.2.1 207 = .ok (.goto (-195), 3) := by decide +kernel
theorem jd_Mo_supply_210 : decode jq_Mo_supply.2.1 210 = .ok (.iload_n 3, 1) := by decide +kernel
theorem jd_Mo_supply_211 : decode jq_Mo_supply.2.1 211 = .ok (.ireturn, 1) := by decide +kernel
theorem jd_Mo_get_0 : decode jq_Mo_get.2.1 0 = .ok (.aload_n 0, 1) := by decide +kernel
theorem jd_Mo_get_1 : decode jq_Mo_get.2.1 1 = .ok (.iload_n 1, 1) := by decide +kernel
theorem jd_Mo_get_2 : decode jq_Mo_get.2.1 2 = .ok (.invokevirtual 227, 3) := by decide +kernel
theorem jd_Mo_get_5 : decode jq_Mo_get.2.1 5 = .ok (.istore 5, 2) := by decide +kernel
theorem jd_Mo_get_7 : decode jq_Mo_get.2.1 7 = .ok (.iload 5, 2) := by decide +kernel
theorem jd_Mo_get_9 : decode jq_Mo_get.2.1 9 = .ok (.ifCond .lt 13, 3) := by decide +kernel
theorem jd_Mo_get_12 : decode jq_Mo_get.2.1 12 = .ok (.iload_n 2, 1) := by decide +kernel
theorem jd_Mo_get_13 : decode jq_Mo_get.2.1 13 = .ok (.iload_n 3, 1) := by decide +kernel
theorem jd_Mo_get_14 : decode jq_Mo_get.2.1 14 = .ok (.iload 4, 2) := by decide +kernel
theorem jd_Mo_get_16 : decode jq_Mo_get.2.1 16 = .ok (.invokestatic 122, 3) := by decide +kernel
theorem jd_Mo_get_19 : decode jq_Mo_get.2.1 19 = .ok (.ifCond .ne 5, 3) := by decide +kernel
theorem jd_Mo_get_22 : decode jq_Mo_get.2.1 22 = .ok (.iconst (-1), 1) := by decide +kernel
theorem jd_Mo_get_23 : decode jq_Mo_get.2.1 23 = .ok (.ireturn, 1) := by decide +kernel
theorem jd_Mo_get_24 : decode jq_Mo_get.2.1 24 = .ok (.aload_n 0, 1) := by decide +kernel
theorem jd_Mo_get_25 : decode jq_Mo_get.2.1 25 = .ok (.iload 5, 2) := by decide +kernel
theorem jd_Mo_get_27 : decode jq_Mo_get.2.1 27 = .ok (.iload_n 2, 1) := by decide +kernel
theorem jd_Mo_get_28 : decode jq_Mo_get.2.1 28 = .ok (.iload_n 3, 1) := by decide +kernel
theorem jd_Mo_get_29 : decode jq_Mo_get.2.1 29 = .ok (.iload 4, 2) := by decide +kernel
theorem jd_Mo_get_31 : decode jq_Mo_get.2.1 31 = .ok (.invokevirtual 165, 3) := by decide +kernel
theorem jd_Mo_get_34 : decode jq_Mo_get.2.1 34 = .ok (.istore 6, 2) := by decide +kernel
theorem jd_Mo_get_36 : decode jq_Mo_get.2.1 36 = .ok (.iload 6, 2) := by decide +kernel
theorem jd_Mo_get_38 : decode jq_Mo_get.2.1 38 = .ok (.ifCond .ge 8, 3) := by decide +kernel
theorem jd_Mo_get_41 : decode jq_Mo_get.2.1 41 = .ok (.iload 6, 2) := by decide +kernel
theorem jd_Mo_get_43 : decode jq_Mo_get.2.1 43 = .ok (.goto 13, 3) := by decide +kernel
theorem jd_Mo_get_46 : decode jq_Mo_get.2.1 46 = .ok (.aload_n 0, 1) := by decide +kernel
theorem jd_Mo_get_47 : decode jq_Mo_get.2.1 47 = .ok (.aload_n 0, 1) := by decide +kernel
theorem jd_Mo_get_48 : decode jq_Mo_get.2.1 48 = .ok (.getfield 141, 3) := by decide +kernel
theorem jd_Mo_get_51 : decode jq_Mo_get.2.1 51 = .ok (.iload 6, 2) := by decide +kernel
theorem jd_Mo_get_53 : decode jq_Mo_get.2.1 53 = .ok (.invokevirtual 195, 3) := by decide +kernel
theorem jd_Mo_get_56 : decode jq_Mo_get.2.1 56 = .ok (.ireturn, 1) := by decide +kernel
theorem jd_Mo_need_0 : decode jq_Mo_need.2.1 0 = .ok (.iload_n 1, 1) := by decide +kernel
theorem jd_Mo_need_1 : decode jq_Mo_need.2.1 1 = .ok (.iconst 0, 1) := by decide +kernel
theorem jd_Mo_need_2 : decode jq_Mo_need.2.1 2 = .ok (.aload_n 0, 1) := by decide +kernel
