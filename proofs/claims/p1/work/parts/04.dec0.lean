/-! What each instruction is. -/
theorem jd_AbC_init_0 : decode jq_AbC_init.2.1 0 = .ok (.aload_n 0, 1) := by decide +kernel
theorem jd_AbC_init_1 : decode jq_AbC_init.2.1 1 = .ok (.invokespecial 1, 3) := by decide +kernel
theorem jd_AbC_init_4 : decode jq_AbC_init.2.1 4 = .ok (.return_, 1) := by decide +kernel
theorem jd_AbL_init_0 : decode jq_AbL_init.2.1 0 = .ok (.aload_n 0, 1) := by decide +kernel
theorem jd_AbL_init_1 : decode jq_AbL_init.2.1 1 = .ok (.invokespecial 1, 3) := by decide +kernel
theorem jd_AbL_init_4 : decode jq_AbL_init.2.1 4 = .ok (.aload_n 0, 1) := by decide +kernel
theorem jd_AbL_init_5 : decode jq_AbL_init.2.1 5 = .ok (.iconst 0, 1) := by decide +kernel
theorem jd_AbL_init_6 : decode jq_AbL_init.2.1 6 = .ok (.putfield 7, 3) := by decide +kernel
theorem jd_AbL_init_9 : decode jq_AbL_init.2.1 9 = .ok (.return_, 1) := by decide +kernel
theorem jd_AL_init_0 : decode jq_AL_init.2.1 0 = .ok (.aload_n 0, 1) := by decide +kernel
theorem jd_AL_init_1 : decode jq_AL_init.2.1 1 = .ok (.invokespecial 1, 3) := by decide +kernel
theorem jd_AL_init_4 : decode jq_AL_init.2.1 4 = .ok (.aload_n 0, 1) := by decide +kernel
theorem jd_AL_init_5 : decode jq_AL_init.2.1 5 = .ok (.getstatic 39, 3) := by decide +kernel
theorem jd_AL_init_8 : decode jq_AL_init.2.1 8 = .ok (.putfield 9, 3) := by decide +kernel
theorem jd_AL_init_11 : decode jq_AL_init.2.1 11 = .ok (.return_, 1) := by decide +kernel
theorem jd_Ca_init_0 : decode jq_Ca_init.2.1 0 = .ok (.aload_n 0, 1) := by decide +kernel
theorem jd_Ca_init_1 : decode jq_Ca_init.2.1 1 = .ok (.invokespecial 3, 3) := by decide +kernel
theorem jd_Ca_init_4 : decode jq_Ca_init.2.1 4 = .ok (.aload_n 0, 1) := by decide +kernel
theorem jd_Ca_init_5 : decode jq_Ca_init.2.1 5 = .ok (.bipush 6, 2) := by decide +kernel
theorem jd_Ca_init_7 : decode jq_Ca_init.2.1 7 = .ok (.newarray .int, 2) := by decide +kernel
theorem jd_Ca_init_9 : decode jq_Ca_init.2.1 9 = .ok (.putfield 9, 3) := by decide +kernel
theorem jd_Ca_init_12 : decode jq_Ca_init.2.1 12 = .ok (.aload_n 0, 1) := by decide +kernel
theorem jd_Ca_init_13 : decode jq_Ca_init.2.1 13 = .ok (.new 15, 3) := by decide +kernel
theorem jd_Ca_init_16 : decode jq_Ca_init.2.1 16 = .ok (.dup, 1) := by decide +kernel
theorem jd_Ca_init_17 : decode jq_Ca_init.2.1 17 = .ok (.invokespecial 17, 3) := by decide +kernel
theorem jd_Ca_init_20 : decode jq_Ca_init.2.1 20 = .ok (.putfield 18, 3) := by decide +kernel
theorem jd_Ca_init_23 : decode jq_Ca_init.2.1 23 = .ok (.iconst 0, 1) := by decide +kernel
theorem jd_Ca_init_24 : decode jq_Ca_init.2.1 24 = .ok (.istore_n 1, 1) := by decide +kernel
theorem jd_Ca_init_25 : decode jq_Ca_init.2.1 25 = .ok (.iload_n 1, 1) := by decide +kernel
theorem jd_Ca_init_26 : decode jq_Ca_init.2.1 26 = .ok (.bipush 6, 2) := by decide +kernel
theorem jd_Ca_init_28 : decode jq_Ca_init.2.1 28 = .ok (.if_icmp .ge 18, 3) := by decide +kernel
theorem jd_Ca_init_31 : decode jq_Ca_init.2.1 31 = .ok (.aload_n 0, 1) := by decide +kernel
theorem jd_Ca_init_32 : decode jq_Ca_init.2.1 32 = .ok (.getfield 9, 3) := by decide +kernel
theorem jd_Ca_init_35 : decode jq_Ca_init.2.1 35 = .ok (.iload_n 1, 1) := by decide +kernel
theorem jd_Ca_init_36 : decode jq_Ca_init.2.1 36 = .ok (.iconst 1, 1) := by decide +kernel
theorem jd_Ca_init_37 : decode jq_Ca_init.2.1 37 = .ok (.iload_n 1, 1) := by decide +kernel
theorem jd_Ca_init_38 : decode jq_Ca_init.2.1 38 = .ok (.ishl, 1) := by decide +kernel
theorem jd_Ca_init_39 : decode jq_Ca_init.2.1 39 = .ok (.iastore, 1) := by decide +kernel
theorem jd_Ca_init_40 : decode jq_Ca_init.2.1 40 = .ok (.iinc 1 1, 3) := by decide +kernel
theorem jd_Ca_init_43 : decode jq_Ca_init.2.1 43 = .ok (.goto (-18), 3) := by decide +kernel
theorem jd_Ca_init_46 : decode jq_Ca_init.2.1 46 = .ok (.return_, 1) := by decide +kernel
theorem jd_Jo_init_0 : decode jq_Jo_init.2.1 0 = .ok (.aload_n 0, 1) := by decide +kernel
theorem jd_Jo_init_1 : decode jq_Jo_init.2.1 1 = .ok (.invokespecial 3, 3) := by decide +kernel
theorem jd_Jo_init_4 : decode jq_Jo_init.2.1 4 = .ok (.aload_n 0, 1) := by decide +kernel
theorem jd_Jo_init_5 : decode jq_Jo_init.2.1 5 = .ok (.bipush 32, 2) := by decide +kernel
theorem jd_Jo_init_7 : decode jq_Jo_init.2.1 7 = .ok (.newarray .int, 2) := by decide +kernel
theorem jd_Jo_init_9 : decode jq_Jo_init.2.1 9 = .ok (.putfield 9, 3) := by decide +kernel
theorem jd_Jo_init_12 : decode jq_Jo_init.2.1 12 = .ok (.return_, 1) := by decide +kernel
theorem jd_Sh_init_0 : decode jq_Sh_init.2.1 0 = .ok (.aload_n 0, 1) := by decide +kernel
theorem jd_Sh_init_1 : decode jq_Sh_init.2.1 1 = .ok (.invokespecial 3, 3) := by decide +kernel
theorem jd_Sh_init_4 : decode jq_Sh_init.2.1 4 = .ok (.aload_n 0, 1) := by decide +kernel
theorem jd_Sh_init_5 : decode jq_Sh_init.2.1 5 = .ok (.new 9, 3) := by decide +kernel
theorem jd_Sh_init_8 : decode jq_Sh_init.2.1 8 = .ok (.dup, 1) := by decide +kernel
theorem jd_Sh_init_9 : decode jq_Sh_init.2.1 9 = .ok (.invokespecial 11, 3) := by decide +kernel
theorem jd_Sh_init_12 : decode jq_Sh_init.2.1 12 = .ok (.putfield 12, 3) := by decide +kernel
theorem jd_Sh_init_15 : decode jq_Sh_init.2.1 15 = .ok (.aload_n 0, 1) := by decide +kernel
theorem jd_Sh_init_16 : decode jq_Sh_init.2.1 16 = .ok (.new 9, 3) := by decide +kernel
theorem jd_Sh_init_19 : decode jq_Sh_init.2.1 19 = .ok (.dup, 1) := by decide +kernel
theorem jd_Sh_init_20 : decode jq_Sh_init.2.1 20 = .ok (.invokespecial 11, 3) := by decide +kernel
theorem jd_Sh_init_23 : decode jq_Sh_init.2.1 23 = .ok (.putfield 18, 3) := by decide +kernel
theorem jd_Sh_init_26 : decode jq_Sh_init.2.1 26 = .ok (.aload_n 0, 1) := by decide +kernel
theorem jd_Sh_init_27 : decode jq_Sh_init.2.1 27 = .ok (.iload_n 1, 1) := by decide +kernel
theorem jd_Sh_init_28 : decode jq_Sh_init.2.1 28 = .ok (.putfield 21, 3) := by decide +kernel
theorem jd_Sh_init_31 : decode jq_Sh_init.2.1 31 = .ok (.aload_n 0, 1) := by decide +kernel
theorem jd_Sh_init_32 : decode jq_Sh_init.2.1 32 = .ok (.aload_n 2, 1) := by decide +kernel
theorem jd_Sh_init_33 : decode jq_Sh_init.2.1 33 = .ok (.putfield 25, 3) := by decide +kernel
theorem jd_Sh_init_36 : decode jq_Sh_init.2.1 36 = .ok (.aload_n 0, 1) := by decide +kernel
theorem jd_Sh_init_37 : decode jq_Sh_init.2.1 37 = .ok (.aload_n 3, 1) := by decide +kernel
theorem jd_Sh_init_38 : decode jq_Sh_init.2.1 38 = .ok (.putfield 29, 3) := by decide +kernel
theorem jd_Sh_init_41 : decode jq_Sh_init.2.1 41 = .ok (.return_, 1) := by decide +kernel
theorem jd_Wo_init_0 : decode jq_Wo_init.2.1 0 = .ok (.aload_n 0, 1) := by decide +kernel
theorem jd_Wo_init_1 : decode jq_Wo_init.2.1 1 = .ok (.invokespecial 3, 3) := by decide +kernel
theorem jd_Wo_init_4 : decode jq_Wo_init.2.1 4 = .ok (.aload_n 0, 1) := by decide +kernel
theorem jd_Wo_init_5 : decode jq_Wo_init.2.1 5 = .ok (.new 9, 3) := by decide +kernel
theorem jd_Wo_init_8 : decode jq_Wo_init.2.1 8 = .ok (.dup, 1) := by decide +kernel
theorem jd_Wo_init_9 : decode jq_Wo_init.2.1 9 = .ok (.invokespecial 11, 3) := by decide +kernel
theorem jd_Wo_init_12 : decode jq_Wo_init.2.1 12 = .ok (.putfield 12, 3) := by decide +kernel
theorem jd_Wo_init_15 : decode jq_Wo_init.2.1 15 = .ok (.aload_n 0, 1) := by decide +kernel
theorem jd_Wo_init_16 : decode jq_Wo_init.2.1 16 = .ok (.aload_n 1, 1) := by decide +kernel
theorem jd_Wo_init_17 : decode jq_Wo_init.2.1 17 = .ok (.putfield 18, 3) := by decide +kernel
theorem jd_Wo_init_20 : decode jq_Wo_init.2.1 20 = .ok (.aload_n 0, 1) := by decide +kernel
theorem jd_Wo_init_21 : decode jq_Wo_init.2.1 21 = .ok (.aload_n 2, 1) := by decide +kernel
theorem jd_Wo_init_22 : decode jq_Wo_init.2.1 22 = .ok (.putfield 22, 3) := by decide +kernel
theorem jd_Wo_init_25 : decode jq_Wo_init.2.1 25 = .ok (.return_, 1) := by decide +kernel
theorem jd_Bc_init_0 : decode jq_Bc_init.2.1 0 = .ok (.aload_n 0, 1) := by decide +kernel
theorem jd_Bc_init_1 : decode jq_Bc_init.2.1 1 = .ok (.invokespecial 1, 3) := by decide +kernel
theorem jd_Bc_init_4 : decode jq_Bc_init.2.1 4 = .ok (.aload_n 0, 1) := by decide +kernel
theorem jd_Bc_init_5 : decode jq_Bc_init.2.1 5 = .ok (.new 7, 3) := by decide +kernel
theorem jd_Bc_init_8 : decode jq_Bc_init.2.1 8 = .ok (.dup, 1) := by decide +kernel
theorem jd_Bc_init_9 : decode jq_Bc_init.2.1 9 = .ok (.invokespecial 9, 3) := by decide +kernel
theorem jd_Bc_init_12 : decode jq_Bc_init.2.1 12 = .ok (.putfield 10, 3) := by decide +kernel
theorem jd_Bc_init_15 : decode jq_Bc_init.2.1 15 = .ok (.aload_n 0, 1) := by decide +kernel
theorem jd_Bc_init_16 : decode jq_Bc_init.2.1 16 = .ok (.new 16, 3) := by decide +kernel
theorem jd_Bc_init_19 : decode jq_Bc_init.2.1 19 = .ok (.dup, 1) := by decide +kernel
theorem jd_Bc_init_20 : decode jq_Bc_init.2.1 20 = .ok (.invokespecial 18, 3) := by decide +kernel
theorem jd_Bc_init_23 : decode jq_Bc_init.2.1 23 = .ok (.putfield 19, 3) := by decide +kernel
theorem jd_Bc_init_26 : decode jq_Bc_init.2.1 26 = .ok (.aload_n 0, 1) := by decide +kernel
theorem jd_Bc_init_27 : decode jq_Bc_init.2.1 27 = .ok (.new 23, 3) := by decide +kernel
theorem jd_Bc_init_30 : decode jq_Bc_init.2.1 30 = .ok (.dup, 1) := by decide +kernel
theorem jd_Bc_init_31 : decode jq_Bc_init.2.1 31 = .ok (.invokespecial 25, 3) := by decide +kernel
theorem jd_Bc_init_34 : decode jq_Bc_init.2.1 34 = .ok (.putfield 26, 3) := by decide +kernel
theorem jd_Bc_init_37 : decode jq_Bc_init.2.1 37 = .ok (.aload_n 0, 1) := by decide +kernel
theorem jd_Bc_init_38 : decode jq_Bc_init.2.1 38 = .ok (.new 30, 3) := by decide +kernel
theorem jd_Bc_init_41 : decode jq_Bc_init.2.1 41 = .ok (.dup, 1) := by decide +kernel
theorem jd_Bc_init_42 : decode jq_Bc_init.2.1 42 = .ok (.aload_n 0, 1) := by decide +kernel
theorem jd_Bc_init_43 : decode jq_Bc_init.2.1 43 = .ok (.getfield 10, 3) := by decide +kernel
theorem jd_Bc_init_46 : decode jq_Bc_init.2.1 46 = .ok (.aload_n 0, 1) := by decide +kernel
theorem jd_Bc_init_47 : decode jq_Bc_init.2.1 47 = .ok (.getfield 26, 3) := by decide +kernel
theorem jd_Bc_init_50 : decode jq_Bc_init.2.1 50 = .ok (.invokespecial 32, 3) := by decide +kernel
theorem jd_Bc_init_53 : decode jq_Bc_init.2.1 53 = .ok (.putfield 35, 3) := by decide +kernel
theorem jd_Bc_init_56 : decode jq_Bc_init.2.1 56 = .ok (.aload_n 0, 1) := by decide +kernel
theorem jd_Bc_init_57 : decode jq_Bc_init.2.1 57 = .ok (.new 39, 3) := by decide +kernel
theorem jd_Bc_init_60 : decode jq_Bc_init.2.1 60 = .ok (.dup, 1) := by decide +kernel
theorem jd_Bc_init_61 : decode jq_Bc_init.2.1 61 = .ok (.iconst 3, 1) := by decide +kernel
theorem jd_Bc_init_62 : decode jq_Bc_init.2.1 62 = .ok (.bipush 6, 2) := by decide +kernel
theorem jd_Bc_init_64 : decode jq_Bc_init.2.1 64 = .ok (.iload_n 1, 1) := by decide +kernel
theorem jd_Bc_init_65 : decode jq_Bc_init.2.1 65 = .ok (.invokestatic 41, 3) := by decide +kernel
theorem jd_Bc_init_68 : decode jq_Bc_init.2.1 68 = .ok (.invokestatic 47, 3) := by decide +kernel
theorem jd_Bc_init_71 : decode jq_Bc_init.2.1 71 = .ok (.aload_n 0, 1) := by decide +kernel
theorem jd_Bc_init_72 : decode jq_Bc_init.2.1 72 = .ok (.getfield 35, 3) := by decide +kernel
theorem jd_Bc_init_75 : decode jq_Bc_init.2.1 75 = .ok (.aload_n 0, 1) := by decide +kernel
theorem jd_Bc_init_76 : decode jq_Bc_init.2.1 76 = .ok (.getfield 26, 3) := by decide +kernel
theorem jd_Bc_init_79 : decode jq_Bc_init.2.1 79 = .ok (.invokespecial 50, 3) := by decide +kernel
theorem jd_Bc_init_82 : decode jq_Bc_init.2.1 82 = .ok (.putfield 53, 3) := by decide +kernel
theorem jd_Bc_init_85 : decode jq_Bc_init.2.1 85 = .ok (.return_, 1) := by decide +kernel
theorem jd_Bc_isBelow_0 : decode jq_Bc_isBelow.2.1 0 = .ok (.iload_n 0, 1) := by decide +kernel
theorem jd_Bc_isBelow_1 : decode jq_Bc_isBelow.2.1 1 = .ok (.ifCond .lt 12, 3) := by decide +kernel
theorem jd_Bc_isBelow_4 : decode jq_Bc_isBelow.2.1 4 = .ok (.iload_n 0, 1) := by decide +kernel
theorem jd_Bc_isBelow_5 : decode jq_Bc_isBelow.2.1 5 = .ok (.iload_n 1, 1) := by decide +kernel
theorem jd_Bc_isBelow_6 : decode jq_Bc_isBelow.2.1 6 = .ok (.if_icmp .ge 7, 3) := by decide +kernel
theorem jd_Bc_isBelow_9 : decode jq_Bc_isBelow.2.1 9 = .ok (.iconst 1, 1) := by decide +kernel
theorem jd_Bc_isBelow_10 : decode jq_Bc_isBelow.2.1 10 = .ok (.goto 4, 3) := by decide +kernel
theorem jd_Bc_isBelow_13 : decode jq_Bc_isBelow.2.1 13 = .ok (.iconst 0, 1) := by decide +kernel
theorem jd_Bc_isBelow_14 : decode jq_Bc_isBelow.2.1 14 = .ok (.ireturn, 1) := by decide +kernel
theorem jd_AL_elementData_0 : decode jq_AL_elementData.2.1 0 = .ok (.aload_n 0, 1) := by decide +kernel
theorem jd_AL_elementData_1 : decode jq_AL_elementData.2.1 1 = .ok (.getfield 9, 3) := by decide +kernel
theorem jd_AL_elementData_4 : decode jq_AL_elementData.2.1 4 = .ok (.iload_n 1, 1) := by decide +kernel
theorem jd_AL_elementData_5 : decode jq_AL_elementData.2.1 5 = .ok (.aaload, 1) := by decide +kernel
theorem jd_AL_elementData_6 : decode jq_AL_elementData.2.1 6 = .ok (.areturn, 1) := by decide +kernel
theorem jd_Pre_checkIndex_0 : decode jq_Pre_checkIndex.2.1 0 = .ok (.iload_n 0, 1) := by decide +kernel
theorem jd_Pre_checkIndex_1 : decode jq_Pre_checkIndex.2.1 1 = .ok (.ifCond .lt 8, 3) := by decide +kernel
theorem jd_Pre_checkIndex_4 : decode jq_Pre_checkIndex.2.1 4 = .ok (.iload_n 0, 1) := by decide +kernel
theorem jd_Pre_checkIndex_5 : decode jq_Pre_checkIndex.2.1 5 = .ok (.iload_n 1, 1) := by decide +kernel
theorem jd_Pre_checkIndex_6 : decode jq_Pre_checkIndex.2.1 6 = .ok (.if_icmp .lt 10, 3) := by decide +kernel
theorem jd_Pre_checkIndex_9 : decode jq_Pre_checkIndex.2.1 9 = .ok (.aload_n 2, 1) := by decide +kernel
theorem jd_Pre_checkIndex_10 : decode jq_Pre_checkIndex.2.1 10 = .ok (.iload_n 0, 1) := by decide +kernel
theorem jd_Pre_checkIndex_11 : decode jq_Pre_checkIndex.2.1 11 = .ok (.iload_n 1, 1) := by decide +kernel
theorem jd_Pre_checkIndex_16 : decode jq_Pre_checkIndex.2.1 16 = .ok (.iload_n 0, 1) := by decide +kernel
theorem jd_Pre_checkIndex_17 : decode jq_Pre_checkIndex.2.1 17 = .ok (.ireturn, 1) := by decide +kernel
theorem jd_Obs_checkIndex_0 : decode jq_Obs_checkIndex.2.1 0 = .ok (.iload_n 0, 1) := by decide +kernel
theorem jd_Obs_checkIndex_1 : decode jq_Obs_checkIndex.2.1 1 = .ok (.iload_n 1, 1) := by decide +kernel
theorem jd_Obs_checkIndex_2 : decode jq_Obs_checkIndex.2.1 2 = .ok (.aconst_null, 1) := by decide +kernel
theorem jd_Obs_checkIndex_3 : decode jq_Obs_checkIndex.2.1 3 = .ok (.invokestatic 105, 3) := by decide +kernel
theorem jd_Obs_checkIndex_6 : decode jq_Obs_checkIndex.2.1 6 = .ok (.ireturn, 1) := by decide +kernel
theorem jd_AL_get_0 : decode jq_AL_get.2.1 0 = .ok (.iload_n 1, 1) := by decide +kernel
theorem jd_AL_get_1 : decode jq_AL_get.2.1 1 = .ok (.aload_n 0, 1) := by decide +kernel
theorem jd_AL_get_2 : decode jq_AL_get.2.1 2 = .ok (.getfield 48, 3) := by decide +kernel
theorem jd_AL_get_5 : decode jq_AL_get.2.1 5 = .ok (.invokestatic 118, 3) := by decide +kernel
theorem jd_AL_get_8 : decode jq_AL_get.2.1 8 = .ok (.pop, 1) := by decide +kernel
theorem jd_AL_get_9 : decode jq_AL_get.2.1 9 = .ok (.aload_n 0, 1) := by decide +kernel
theorem jd_AL_get_10 : decode jq_AL_get.2.1 10 = .ok (.iload_n 1, 1) := by decide +kernel
theorem jd_AL_get_11 : decode jq_AL_get.2.1 11 = .ok (.invokevirtual 123, 3) := by decide +kernel
theorem jd_AL_get_14 : decode jq_AL_get.2.1 14 = .ok (.areturn, 1) := by decide +kernel
theorem jd_AL_size_0 : decode jq_AL_size.2.1 0 = .ok (.aload_n 0, 1) := by decide +kernel
theorem jd_AL_size_1 : decode jq_AL_size.2.1 1 = .ok (.getfield 48, 3) := by decide +kernel
theorem jd_AL_size_4 : decode jq_AL_size.2.1 4 = .ok (.ireturn, 1) := by decide +kernel
theorem jd_Sh_numberAt_0 : decode jq_Sh_numberAt.2.1 0 = .ok (.iload_n 1, 1) := by decide +kernel
theorem jd_Sh_numberAt_1 : decode jq_Sh_numberAt.2.1 1 = .ok (.aload_n 0, 1) := by decide +kernel
theorem jd_Sh_numberAt_2 : decode jq_Sh_numberAt.2.1 2 = .ok (.getfield 18, 3) := by decide +kernel
theorem jd_Sh_numberAt_5 : decode jq_Sh_numberAt.2.1 5 = .ok (.invokevirtual 33, 3) := by decide +kernel
theorem jd_Sh_numberAt_8 : decode jq_Sh_numberAt.2.1 8 = .ok (.invokestatic 47, 3) := by decide +kernel
theorem jd_Sh_numberAt_11 : decode jq_Sh_numberAt.2.1 11 = .ok (.ifCond .eq 20, 3) := by decide +kernel
theorem jd_Sh_numberAt_14 : decode jq_Sh_numberAt.2.1 14 = .ok (.aload_n 0, 1) := by decide +kernel
theorem jd_Sh_numberAt_15 : decode jq_Sh_numberAt.2.1 15 = .ok (.getfield 18, 3) := by decide +kernel
theorem jd_Sh_numberAt_18 : decode jq_Sh_numberAt.2.1 18 = .ok (.iload_n 1, 1) := by decide +kernel
theorem jd_Sh_numberAt_19 : decode jq_Sh_numberAt.2.1 19 = .ok (.invokevirtual 37, 3) := by decide +kernel
theorem jd_Sh_numberAt_22 : decode jq_Sh_numberAt.2.1 22 = .ok (.checkcast 41, 3) := by decide +kernel
theorem jd_Sh_numberAt_25 : decode jq_Sh_numberAt.2.1 25 = .ok (.getfield 51, 3) := by decide +kernel
theorem jd_Sh_numberAt_28 : decode jq_Sh_numberAt.2.1 28 = .ok (.goto 4, 3) := by decide +kernel
theorem jd_Sh_numberAt_31 : decode jq_Sh_numberAt.2.1 31 = .ok (.iconst (-1), 1) := by decide +kernel
theorem jd_Sh_numberAt_32 : decode jq_Sh_numberAt.2.1 32 = .ok (.ireturn, 1) := by decide +kernel
theorem jd_Bc_cached_0 : decode jq_Bc_cached.2.1 0 = .ok (.aload_n 0, 1) := by decide +kernel
theorem jd_Bc_cached_1 : decode jq_Bc_cached.2.1 1 = .ok (.getfield 53, 3) := by decide +kernel
theorem jd_Bc_cached_4 : decode jq_Bc_cached.2.1 4 = .ok (.iload_n 1, 1) := by decide +kernel
theorem jd_Bc_cached_5 : decode jq_Bc_cached.2.1 5 = .ok (.invokevirtual 196, 3) := by decide +kernel
theorem jd_Bc_cached_8 : decode jq_Bc_cached.2.1 8 = .ok (.ireturn, 1) := by decide +kernel
theorem jd_Be_note_0 : decode jq_Be_note.2.1 0 = .ok (.aload_n 0, 1) := by decide +kernel
theorem jd_Be_note_1 : decode jq_Be_note.2.1 1 = .ok (.dup, 1) := by decide +kernel
theorem jd_Be_note_2 : decode jq_Be_note.2.1 2 = .ok (.getfield 25, 3) := by decide +kernel
theorem jd_Be_note_5 : decode jq_Be_note.2.1 5 = .ok (.iconst 1, 1) := by decide +kernel
theorem jd_Be_note_6 : decode jq_Be_note.2.1 6 = .ok (.iadd, 1) := by decide +kernel
theorem jd_Be_note_7 : decode jq_Be_note.2.1 7 = .ok (.putfield 25, 3) := by decide +kernel
theorem jd_Be_note_10 : decode jq_Be_note.2.1 10 = .ok (.aload_n 0, 1) := by decide +kernel
theorem jd_Be_note_11 : decode jq_Be_note.2.1 11 = .ok (.iload_n 1, 1) := by decide +kernel
theorem jd_Be_note_12 : decode jq_Be_note.2.1 12 = .ok (.putfield 28, 3) := by decide +kernel
theorem jd_Be_note_15 : decode jq_Be_note.2.1 15 = .ok (.aload_n 0, 1) := by decide +kernel
theorem jd_Be_note_16 : decode jq_Be_note.2.1 16 = .ok (.getfield 31, 3) := by decide +kernel
theorem jd_Be_note_19 : decode jq_Be_note.2.1 19 = .ok (.ireturn, 1) := by decide +kernel
theorem jd_Wo_answerOf_0 : decode jq_Wo_answerOf.2.1 0 = .ok (.aload_n 1, 1) := by decide +kernel
theorem jd_Wo_answerOf_1 : decode jq_Wo_answerOf.2.1 1 = .ok (.astore_n 3, 1) := by decide +kernel
theorem jd_Wo_answerOf_2 : decode jq_Wo_answerOf.2.1 2 = .ok (.iconst 0, 1) := by decide +kernel
theorem jd_Wo_answerOf_3 : decode jq_Wo_answerOf.2.1 3 = .ok (.istore 4, 2) := by decide +kernel
theorem jd_Wo_answerOf_5 : decode jq_Wo_answerOf.2.1 5 = .ok (.iload_n 2, 1) := by decide +kernel
theorem jd_Wo_answerOf_6 : decode jq_Wo_answerOf.2.1 6 = .ok (.istore 5, 2) := by decide +kernel
theorem jd_Wo_answerOf_8 : decode jq_Wo_answerOf.2.1 8 = .ok (.iconst 0, 1) := by decide +kernel
theorem jd_Wo_answerOf_9 : decode jq_Wo_answerOf.2.1 9 = .ok (.istore 6, 2) := by decide +kernel
theorem jd_Wo_answerOf_11 : decode jq_Wo_answerOf.2.1 11 = .ok (.iload 6, 2) := by decide +kernel
theorem jd_Wo_answerOf_13 : decode jq_Wo_answerOf.2.1 13 = .ok (.sipush 200, 3) := by decide +kernel
theorem jd_Wo_answerOf_16 : decode jq_Wo_answerOf.2.1 16 = .ok (.if_icmp .ge 46, 3) := by decide +kernel
theorem jd_Wo_answerOf_19 : decode jq_Wo_answerOf.2.1 19 = .ok (.aload_n 3, 1) := by decide +kernel
theorem jd_Wo_answerOf_20 : decode jq_Wo_answerOf.2.1 20 = .ok (.getfield 144, 3) := by decide +kernel
theorem jd_Wo_answerOf_23 : decode jq_Wo_answerOf.2.1 23 = .ok (.arraylength, 1) := by decide +kernel
theorem jd_Wo_answerOf_24 : decode jq_Wo_answerOf.2.1 24 = .ok (.ifCond .le 38, 3) := by decide +kernel
theorem jd_Wo_answerOf_27 : decode jq_Wo_answerOf.2.1 27 = .ok (.iload 4, 2) := by decide +kernel
theorem jd_Wo_answerOf_29 : decode jq_Wo_answerOf.2.1 29 = .ok (.aload_n 3, 1) := by decide +kernel
theorem jd_Wo_answerOf_30 : decode jq_Wo_answerOf.2.1 30 = .ok (.getfield 121, 3) := by decide +kernel
theorem jd_Wo_answerOf_33 : decode jq_Wo_answerOf.2.1 33 = .ok (.iadd, 1) := by decide +kernel
theorem jd_Wo_answerOf_34 : decode jq_Wo_answerOf.2.1 34 = .ok (.istore 4, 2) := by decide +kernel
theorem jd_Wo_answerOf_36 : decode jq_Wo_answerOf.2.1 36 = .ok (.iinc 5 1, 3) := by decide +kernel
theorem jd_Wo_answerOf_39 : decode jq_Wo_answerOf.2.1 39 = .ok (.aload_n 0, 1) := by decide +kernel
theorem jd_Wo_answerOf_40 : decode jq_Wo_answerOf.2.1 40 = .ok (.getfield 12, 3) := by decide +kernel
theorem jd_Wo_answerOf_43 : decode jq_Wo_answerOf.2.1 43 = .ok (.aload_n 3, 1) := by decide +kernel
theorem jd_Wo_answerOf_44 : decode jq_Wo_answerOf.2.1 44 = .ok (.getfield 144, 3) := by decide +kernel
theorem jd_Wo_answerOf_47 : decode jq_Wo_answerOf.2.1 47 = .ok (.iconst 0, 1) := by decide +kernel
theorem jd_Wo_answerOf_48 : decode jq_Wo_answerOf.2.1 48 = .ok (.iaload, 1) := by decide +kernel
theorem jd_Wo_answerOf_49 : decode jq_Wo_answerOf.2.1 49 = .ok (.invokevirtual 103, 3) := by decide +kernel
theorem jd_Wo_answerOf_52 : decode jq_Wo_answerOf.2.1 52 = .ok (.checkcast 76, 3) := by decide +kernel
theorem jd_Wo_answerOf_55 : decode jq_Wo_answerOf.2.1 55 = .ok (.astore_n 3, 1) := by decide +kernel
theorem jd_Wo_answerOf_56 : decode jq_Wo_answerOf.2.1 56 = .ok (.iinc 6 1, 3) := by decide +kernel
theorem jd_Wo_answerOf_59 : decode jq_Wo_answerOf.2.1 59 = .ok (.goto (-48), 3) := by decide +kernel
theorem jd_Wo_answerOf_62 : decode jq_Wo_answerOf.2.1 62 = .ok (.iload 4, 2) := by decide +kernel
theorem jd_Wo_answerOf_64 : decode jq_Wo_answerOf.2.1 64 = .ok (.aload_n 3, 1) := by decide +kernel
theorem jd_Wo_answerOf_65 : decode jq_Wo_answerOf.2.1 65 = .ok (.getfield 141, 3) := by decide +kernel
theorem jd_Wo_answerOf_68 : decode jq_Wo_answerOf.2.1 68 = .ok (.ifCond .eq 12, 3) := by decide +kernel
theorem jd_Wo_answerOf_71 : decode jq_Wo_answerOf.2.1 71 = .ok (.aload_n 3, 1) := by decide +kernel
theorem jd_Wo_answerOf_72 : decode jq_Wo_answerOf.2.1 72 = .ok (.iload 5, 2) := by decide +kernel
theorem jd_Wo_answerOf_74 : decode jq_Wo_answerOf.2.1 74 = .ok (.invokevirtual 147, 3) := by decide +kernel
theorem jd_Wo_answerOf_77 : decode jq_Wo_answerOf.2.1 77 = .ok (.goto 10, 3) := by decide +kernel
theorem jd_Wo_answerOf_80 : decode jq_Wo_answerOf.2.1 80 = .ok (.aload_n 3, 1) := by decide +kernel
theorem jd_Wo_answerOf_81 : decode jq_Wo_answerOf.2.1 81 = .ok (.getfield 121, 3) := by decide +kernel
theorem jd_Wo_answerOf_84 : decode jq_Wo_answerOf.2.1 84 = .ok (.iload 5, 2) := by decide +kernel
theorem jd_Wo_answerOf_86 : decode jq_Wo_answerOf.2.1 86 = .ok (.iadd, 1) := by decide +kernel
theorem jd_Wo_answerOf_87 : decode jq_Wo_answerOf.2.1 87 = .ok (.iadd, 1) := by decide +kernel
theorem jd_Wo_answerOf_88 : decode jq_Wo_answerOf.2.1 88 = .ok (.ireturn, 1) := by decide +kernel
theorem jd_Wo_liveBean_0 : decode jq_Wo_liveBean.2.1 0 = .ok (.iload_n 1, 1) := by decide +kernel
theorem jd_Wo_liveBean_1 : decode jq_Wo_liveBean.2.1 1 = .ok (.aload_n 0, 1) := by decide +kernel
theorem jd_Wo_liveBean_2 : decode jq_Wo_liveBean.2.1 2 = .ok (.getfield 12, 3) := by decide +kernel
theorem jd_Wo_liveBean_5 : decode jq_Wo_liveBean.2.1 5 = .ok (.invokevirtual 100, 3) := by decide +kernel
theorem jd_Wo_liveBean_8 : decode jq_Wo_liveBean.2.1 8 = .ok (.invokestatic 134, 3) := by decide +kernel
theorem jd_Wo_liveBean_11 : decode jq_Wo_liveBean.2.1 11 = .ok (.ifCond .ne 5, 3) := by decide +kernel
theorem jd_Wo_liveBean_14 : decode jq_Wo_liveBean.2.1 14 = .ok (.aconst_null, 1) := by decide +kernel
theorem jd_Wo_liveBean_15 : decode jq_Wo_liveBean.2.1 15 = .ok (.areturn, 1) := by decide +kernel
theorem jd_Wo_liveBean_16 : decode jq_Wo_liveBean.2.1 16 = .ok (.aload_n 0, 1) := by decide +kernel
theorem jd_Wo_liveBean_17 : decode jq_Wo_liveBean.2.1 17 = .ok (.getfield 12, 3) := by decide +kernel
theorem jd_Wo_liveBean_20 : decode jq_Wo_liveBean.2.1 20 = .ok (.iload_n 1, 1) := by decide +kernel
theorem jd_Wo_liveBean_21 : decode jq_Wo_liveBean.2.1 21 = .ok (.invokevirtual 103, 3) := by decide +kernel
theorem jd_Wo_liveBean_24 : decode jq_Wo_liveBean.2.1 24 = .ok (.checkcast 76, 3) := by decide +kernel
theorem jd_Wo_liveBean_27 : decode jq_Wo_liveBean.2.1 27 = .ok (.astore_n 2, 1) := by decide +kernel
theorem jd_Wo_liveBean_28 : decode jq_Wo_liveBean.2.1 28 = .ok (.aload_n 2, 1) := by decide +kernel
theorem jd_Wo_liveBean_29 : decode jq_Wo_liveBean.2.1 29 = .ok (.getfield 118, 3) := by decide +kernel
theorem jd_Wo_liveBean_32 : decode jq_Wo_liveBean.2.1 32 = .ok (.getfield 130, 3) := by decide +kernel
theorem jd_Wo_liveBean_35 : decode jq_Wo_liveBean.2.1 35 = .ok (.ifCond .eq 7, 3) := by decide +kernel
theorem jd_Wo_liveBean_38 : decode jq_Wo_liveBean.2.1 38 = .ok (.aconst_null, 1) := by decide +kernel
theorem jd_Wo_liveBean_39 : decode jq_Wo_liveBean.2.1 39 = .ok (.goto 4, 3) := by decide +kernel
theorem jd_Wo_liveBean_42 : decode jq_Wo_liveBean.2.1 42 = .ok (.aload_n 2, 1) := by decide +kernel
theorem jd_Wo_liveBean_43 : decode jq_Wo_liveBean.2.1 43 = .ok (.areturn, 1) := by decide +kernel
theorem jd_Bc_call_0 : decode jq_Bc_call.2.1 0 = .ok (.aload_n 0, 1) := by decide +kernel
theorem jd_Bc_call_1 : decode jq_Bc_call.2.1 1 = .ok (.getfield 35, 3) := by decide +kernel
theorem jd_Bc_call_4 : decode jq_Bc_call.2.1 4 = .ok (.iload_n 1, 1) := by decide +kernel
theorem jd_Bc_call_5 : decode jq_Bc_call.2.1 5 = .ok (.invokevirtual 162, 3) := by decide +kernel
theorem jd_Bc_call_8 : decode jq_Bc_call.2.1 8 = .ok (.astore_n 3, 1) := by decide +kernel
theorem jd_Bc_call_9 : decode jq_Bc_call.2.1 9 = .ok (.aload_n 3, 1) := by decide +kernel
theorem jd_Bc_call_10 : decode jq_Bc_call.2.1 10 = .ok (.ifnonnull 9, 3) := by decide +kernel
theorem jd_Bc_call_13 : decode jq_Bc_call.2.1 13 = .ok (.ldc2_w 166, 3) := by decide +kernel
theorem jd_Bc_call_16 : decode jq_Bc_call.2.1 16 = .ok (.goto 13, 3) := by decide +kernel
theorem jd_Bc_call_19 : decode jq_Bc_call.2.1 19 = .ok (.aload_n 0, 1) := by decide +kernel
theorem jd_Bc_call_20 : decode jq_Bc_call.2.1 20 = .ok (.getfield 35, 3) := by decide +kernel
theorem jd_Bc_call_23 : decode jq_Bc_call.2.1 23 = .ok (.aload_n 3, 1) := by decide +kernel
theorem jd_Bc_call_24 : decode jq_Bc_call.2.1 24 = .ok (.iload_n 2, 1) := by decide +kernel
theorem jd_Bc_call_25 : decode jq_Bc_call.2.1 25 = .ok (.invokevirtual 168, 3) := by decide +kernel
theorem jd_Bc_call_28 : decode jq_Bc_call.2.1 28 = .ok (.i2l, 1) := by decide +kernel
theorem jd_Bc_call_29 : decode jq_Bc_call.2.1 29 = .ok (.lreturn, 1) := by decide +kernel
theorem jd_Bc_isConfiguration_0 : decode jq_Bc_isConfiguration.2.1 0 = .ok (.iload_n 1, 1) := by decide +kernel
theorem jd_Bc_isConfiguration_1 : decode jq_Bc_isConfiguration.2.1 1 = .ok (.aload_n 0, 1) := by decide +kernel
theorem jd_Bc_isConfiguration_2 : decode jq_Bc_isConfiguration.2.1 2 = .ok (.getfield 19, 3) := by decide +kernel
theorem jd_Bc_isConfiguration_5 : decode jq_Bc_isConfiguration.2.1 5 = .ok (.invokevirtual 111, 3) := by decide +kernel
theorem jd_Bc_isConfiguration_8 : decode jq_Bc_isConfiguration.2.1 8 = .ok (.invokestatic 77, 3) := by decide +kernel
theorem jd_Bc_isConfiguration_11 : decode jq_Bc_isConfiguration.2.1 11 = .ok (.ireturn, 1) := by decide +kernel
theorem jd_Bc_isProfile_0 : decode jq_Bc_isProfile.2.1 0 = .ok (.iload_n 0, 1) := by decide +kernel
theorem jd_Bc_isProfile_1 : decode jq_Bc_isProfile.2.1 1 = .ok (.iconst 4, 1) := by decide +kernel
theorem jd_Bc_isProfile_2 : decode jq_Bc_isProfile.2.1 2 = .ok (.invokestatic 77, 3) := by decide +kernel
theorem jd_Bc_isProfile_5 : decode jq_Bc_isProfile.2.1 5 = .ok (.ireturn, 1) := by decide +kernel
theorem jd_Ca_flagged_0 : decode jq_Ca_flagged.2.1 0 = .ok (.iconst 0, 1) := by decide +kernel
theorem jd_Ca_flagged_1 : decode jq_Ca_flagged.2.1 1 = .ok (.istore_n 2, 1) := by decide +kernel
theorem jd_Ca_flagged_2 : decode jq_Ca_flagged.2.1 2 = .ok (.iconst 0, 1) := by decide +kernel
theorem jd_Ca_flagged_3 : decode jq_Ca_flagged.2.1 3 = .ok (.istore_n 3, 1) := by decide +kernel
theorem jd_Ca_flagged_4 : decode jq_Ca_flagged.2.1 4 = .ok (.iload_n 3, 1) := by decide +kernel
theorem jd_Ca_flagged_5 : decode jq_Ca_flagged.2.1 5 = .ok (.aload_n 0, 1) := by decide +kernel
theorem jd_Ca_flagged_6 : decode jq_Ca_flagged.2.1 6 = .ok (.getfield 18, 3) := by decide +kernel
theorem jd_Ca_flagged_9 : decode jq_Ca_flagged.2.1 9 = .ok (.invokevirtual 29, 3) := by decide +kernel
theorem jd_Ca_flagged_12 : decode jq_Ca_flagged.2.1 12 = .ok (.if_icmp .ge 34, 3) := by decide +kernel
theorem jd_Ca_flagged_15 : decode jq_Ca_flagged.2.1 15 = .ok (.aload_n 0, 1) := by decide +kernel
theorem jd_Ca_flagged_16 : decode jq_Ca_flagged.2.1 16 = .ok (.getfield 18, 3) := by decide +kernel
theorem jd_Ca_flagged_19 : decode jq_Ca_flagged.2.1 19 = .ok (.iload_n 3, 1) := by decide +kernel
theorem jd_Ca_flagged_20 : decode jq_Ca_flagged.2.1 20 = .ok (.invokevirtual 33, 3) := by decide +kernel
theorem jd_Ca_flagged_23 : decode jq_Ca_flagged.2.1 23 = .ok (.checkcast 37, 3) := by decide +kernel
theorem jd_Ca_flagged_26 : decode jq_Ca_flagged.2.1 26 = .ok (.getfield 47, 3) := by decide +kernel
theorem jd_Ca_flagged_29 : decode jq_Ca_flagged.2.1 29 = .ok (.iload_n 1, 1) := by decide +kernel
theorem jd_Ca_flagged_30 : decode jq_Ca_flagged.2.1 30 = .ok (.iand, 1) := by decide +kernel
theorem jd_Ca_flagged_31 : decode jq_Ca_flagged.2.1 31 = .ok (.ifCond .eq 9, 3) := by decide +kernel
theorem jd_Ca_flagged_34 : decode jq_Ca_flagged.2.1 34 = .ok (.iload_n 2, 1) := by decide +kernel
theorem jd_Ca_flagged_35 : decode jq_Ca_flagged.2.1 35 = .ok (.iconst 1, 1) := by decide +kernel
theorem jd_Ca_flagged_36 : decode jq_Ca_flagged.2.1 36 = .ok (.iload_n 3, 1) := by decide +kernel
theorem jd_Ca_flagged_37 : decode jq_Ca_flagged.2.1 37 = .ok (.ishl, 1) := by decide +kernel
theorem jd_Ca_flagged_38 : decode jq_Ca_flagged.2.1 38 = .ok (.ior, 1) := by decide +kernel
theorem jd_Ca_flagged_39 : decode jq_Ca_flagged.2.1 39 = .ok (.istore_n 2, 1) := by decide +kernel
theorem jd_Ca_flagged_40 : decode jq_Ca_flagged.2.1 40 = .ok (.iinc 3 1, 3) := by decide +kernel
theorem jd_Ca_flagged_43 : decode jq_Ca_flagged.2.1 43 = .ok (.goto (-39), 3) := by decide +kernel
theorem jd_Ca_flagged_46 : decode jq_Ca_flagged.2.1 46 = .ok (.iload_n 2, 1) := by decide +kernel
theorem jd_Ca_flagged_47 : decode jq_Ca_flagged.2.1 47 = .ok (.ireturn, 1) := by decide +kernel
theorem jd_Ke_init_0 : decode jq_Ke_init.2.1 0 = .ok (.aload_n 0, 1) := by decide +kernel
theorem jd_Ke_init_1 : decode jq_Ke_init.2.1 1 = .ok (.invokespecial 1, 3) := by decide +kernel
theorem jd_Ke_init_4 : decode jq_Ke_init.2.1 4 = .ok (.aload_n 0, 1) := by decide +kernel
theorem jd_Ke_init_5 : decode jq_Ke_init.2.1 5 = .ok (.iload_n 1, 1) := by decide +kernel
theorem jd_Ke_init_6 : decode jq_Ke_init.2.1 6 = .ok (.putfield 7, 3) := by decide +kernel
theorem jd_Ke_init_9 : decode jq_Ke_init.2.1 9 = .ok (.aload_n 0, 1) := by decide +kernel
theorem jd_Ke_init_10 : decode jq_Ke_init.2.1 10 = .ok (.iload_n 2, 1) := by decide +kernel
theorem jd_Ke_init_11 : decode jq_Ke_init.2.1 11 = .ok (.putfield 13, 3) := by decide +kernel
theorem jd_Ke_init_14 : decode jq_Ke_init.2.1 14 = .ok (.aload_n 0, 1) := by decide +kernel
theorem jd_Ke_init_15 : decode jq_Ke_init.2.1 15 = .ok (.iload_n 3, 1) := by decide +kernel
theorem jd_Ke_init_16 : decode jq_Ke_init.2.1 16 = .ok (.putfield 16, 3) := by decide +kernel
theorem jd_Ke_init_19 : decode jq_Ke_init.2.1 19 = .ok (.aload_n 0, 1) := by decide +kernel
theorem jd_Ke_init_20 : decode jq_Ke_init.2.1 20 = .ok (.iload 4, 2) := by decide +kernel
theorem jd_Ke_init_22 : decode jq_Ke_init.2.1 22 = .ok (.putfield 19, 3) := by decide +kernel
theorem jd_Ke_init_25 : decode jq_Ke_init.2.1 25 = .ok (.aload_n 0, 1) := by decide +kernel
theorem jd_Ke_init_26 : decode jq_Ke_init.2.1 26 = .ok (.iload 5, 2) := by decide +kernel
theorem jd_Ke_init_28 : decode jq_Ke_init.2.1 28 = .ok (.putfield 22, 3) := by decide +kernel
theorem jd_Ke_init_31 : decode jq_Ke_init.2.1 31 = .ok (.aload_n 0, 1) := by decide +kernel
theorem jd_Ke_init_32 : decode jq_Ke_init.2.1 32 = .ok (.aload 6, 2) := by decide +kernel
theorem jd_Ke_init_34 : decode jq_Ke_init.2.1 34 = .ok (.putfield 25, 3) := by decide +kernel
theorem jd_Ke_init_37 : decode jq_Ke_init.2.1 37 = .ok (.return_, 1) := by decide +kernel
theorem jd_Bc_sharedKey_0 : decode jq_Bc_sharedKey.2.1 0 = .ok (.iconst 0, 1) := by decide +kernel
theorem jd_Bc_sharedKey_1 : decode jq_Bc_sharedKey.2.1 1 = .ok (.istore 4, 2) := by decide +kernel
theorem jd_Bc_sharedKey_3 : decode jq_Bc_sharedKey.2.1 3 = .ok (.iload 4, 2) := by decide +kernel
theorem jd_Bc_sharedKey_5 : decode jq_Bc_sharedKey.2.1 5 = .ok (.aload_n 0, 1) := by decide +kernel
theorem jd_Bc_sharedKey_6 : decode jq_Bc_sharedKey.2.1 6 = .ok (.getfield 19, 3) := by decide +kernel
theorem jd_Bc_sharedKey_9 : decode jq_Bc_sharedKey.2.1 9 = .ok (.invokevirtual 111, 3) := by decide +kernel
theorem jd_Bc_sharedKey_12 : decode jq_Bc_sharedKey.2.1 12 = .ok (.if_icmp .ge 53, 3) := by decide +kernel
theorem jd_Bc_sharedKey_15 : decode jq_Bc_sharedKey.2.1 15 = .ok (.aload_n 0, 1) := by decide +kernel
theorem jd_Bc_sharedKey_16 : decode jq_Bc_sharedKey.2.1 16 = .ok (.getfield 19, 3) := by decide +kernel
theorem jd_Bc_sharedKey_19 : decode jq_Bc_sharedKey.2.1 19 = .ok (.iload 4, 2) := by decide +kernel
theorem jd_Bc_sharedKey_21 : decode jq_Bc_sharedKey.2.1 21 = .ok (.invokevirtual 115, 3) := by decide +kernel
theorem jd_Bc_sharedKey_24 : decode jq_Bc_sharedKey.2.1 24 = .ok (.checkcast 119, 3) := by decide +kernel
theorem jd_Bc_sharedKey_27 : decode jq_Bc_sharedKey.2.1 27 = .ok (.astore 5, 2) := by decide +kernel
theorem jd_Bc_sharedKey_29 : decode jq_Bc_sharedKey.2.1 29 = .ok (.aload 5, 2) := by decide +kernel
theorem jd_Bc_sharedKey_31 : decode jq_Bc_sharedKey.2.1 31 = .ok (.getfield 210, 3) := by decide +kernel
theorem jd_Bc_sharedKey_34 : decode jq_Bc_sharedKey.2.1 34 = .ok (.iload_n 1, 1) := by decide +kernel
theorem jd_Bc_sharedKey_35 : decode jq_Bc_sharedKey.2.1 35 = .ok (.if_icmp .ne 24, 3) := by decide +kernel
theorem jd_Bc_sharedKey_38 : decode jq_Bc_sharedKey.2.1 38 = .ok (.aload 5, 2) := by decide +kernel
theorem jd_Bc_sharedKey_40 : decode jq_Bc_sharedKey.2.1 40 = .ok (.getfield 213, 3) := by decide +kernel
theorem jd_Bc_sharedKey_43 : decode jq_Bc_sharedKey.2.1 43 = .ok (.iload_n 2, 1) := by decide +kernel
theorem jd_Bc_sharedKey_44 : decode jq_Bc_sharedKey.2.1 44 = .ok (.if_icmp .ne 15, 3) := by decide +kernel
theorem jd_Bc_sharedKey_47 : decode jq_Bc_sharedKey.2.1 47 = .ok (.aload 5, 2) := by decide +kernel
theorem jd_Bc_sharedKey_49 : decode jq_Bc_sharedKey.2.1 49 = .ok (.getfield 216, 3) := by decide +kernel
theorem jd_Bc_sharedKey_52 : decode jq_Bc_sharedKey.2.1 52 = .ok (.aload_n 3, 1) := by decide +kernel
theorem jd_Bc_sharedKey_53 : decode jq_Bc_sharedKey.2.1 53 = .ok (.if_acmp .ne 6, 3) := by decide +kernel
theorem jd_Bc_sharedKey_56 : decode jq_Bc_sharedKey.2.1 56 = .ok (.aload 5, 2) := by decide +kernel
theorem jd_Bc_sharedKey_58 : decode jq_Bc_sharedKey.2.1 58 = .ok (.areturn, 1) := by decide +kernel
theorem jd_Bc_sharedKey_59 : decode jq_Bc_sharedKey.2.1 59 = .ok (.iinc 4 1, 3) := by decide +kernel
theorem jd_Bc_sharedKey_62 : decode jq_Bc_sharedKey.2.1 62 = .ok (.goto (-59), 3) := by decide +kernel
theorem jd_Bc_sharedKey_65 : decode jq_Bc_sharedKey.2.1 65 = .ok (.iload_n 2, 1) := by decide +kernel
theorem jd_Bc_sharedKey_66 : decode jq_Bc_sharedKey.2.1 66 = .ok (.iload_n 1, 1) := by decide +kernel
theorem jd_Bc_sharedKey_67 : decode jq_Bc_sharedKey.2.1 67 = .ok (.aload_n 0, 1) := by decide +kernel
theorem jd_Bc_sharedKey_68 : decode jq_Bc_sharedKey.2.1 68 = .ok (.getfield 10, 3) := by decide +kernel
theorem jd_Bc_sharedKey_71 : decode jq_Bc_sharedKey.2.1 71 = .ok (.iconst 4, 1) := by decide +kernel
theorem jd_Bc_sharedKey_72 : decode jq_Bc_sharedKey.2.1 72 = .ok (.invokevirtual 220, 3) := by decide +kernel
theorem jd_Bc_sharedKey_75 : decode jq_Bc_sharedKey.2.1 75 = .ok (.iconst (-1), 1) := by decide +kernel
theorem jd_Bc_sharedKey_76 : decode jq_Bc_sharedKey.2.1 76 = .ok (.ixor, 1) := by decide +kernel
theorem jd_Bc_sharedKey_77 : decode jq_Bc_sharedKey.2.1 77 = .ok (.iand, 1) := by decide +kernel
theorem jd_Bc_sharedKey_78 : decode jq_Bc_sharedKey.2.1 78 = .ok (.ior, 1) := by decide +kernel
theorem jd_Bc_sharedKey_79 : decode jq_Bc_sharedKey.2.1 79 = .ok (.istore 4, 2) := by decide +kernel
theorem jd_Bc_sharedKey_81 : decode jq_Bc_sharedKey.2.1 81 = .ok (.iload_n 2, 1) := by decide +kernel
theorem jd_Bc_sharedKey_82 : decode jq_Bc_sharedKey.2.1 82 = .ok (.iload 4, 2) := by decide +kernel
theorem jd_Bc_sharedKey_84 : decode jq_Bc_sharedKey.2.1 84 = .ok (.aload_n 0, 1) := by decide +kernel
theorem jd_Bc_sharedKey_85 : decode jq_Bc_sharedKey.2.1 85 = .ok (.getfield 10, 3) := by decide +kernel
theorem jd_Bc_sharedKey_88 : decode jq_Bc_sharedKey.2.1 88 = .ok (.iconst 2, 1) := by decide +kernel
theorem jd_Bc_sharedKey_89 : decode jq_Bc_sharedKey.2.1 89 = .ok (.invokevirtual 220, 3) := by decide +kernel
theorem jd_Bc_sharedKey_92 : decode jq_Bc_sharedKey.2.1 92 = .ok (.iconst (-1), 1) := by decide +kernel
theorem jd_Bc_sharedKey_93 : decode jq_Bc_sharedKey.2.1 93 = .ok (.ixor, 1) := by decide +kernel
theorem jd_Bc_sharedKey_94 : decode jq_Bc_sharedKey.2.1 94 = .ok (.iand, 1) := by decide +kernel
theorem jd_Bc_sharedKey_95 : decode jq_Bc_sharedKey.2.1 95 = .ok (.ior, 1) := by decide +kernel
theorem jd_Bc_sharedKey_96 : decode jq_Bc_sharedKey.2.1 96 = .ok (.istore 5, 2) := by decide +kernel
theorem jd_Bc_sharedKey_98 : decode jq_Bc_sharedKey.2.1 98 = .ok (.new 119, 3) := by decide +kernel
theorem jd_Bc_sharedKey_101 : decode jq_Bc_sharedKey.2.1 101 = .ok (.dup, 1) := by decide +kernel
theorem jd_Bc_sharedKey_102 : decode jq_Bc_sharedKey.2.1 102 = .ok (.aload_n 0, 1) := by decide +kernel
theorem jd_Bc_sharedKey_103 : decode jq_Bc_sharedKey.2.1 103 = .ok (.getfield 19, 3) := by decide +kernel
theorem jd_Bc_sharedKey_106 : decode jq_Bc_sharedKey.2.1 106 = .ok (.invokevirtual 111, 3) := by decide +kernel
theorem jd_Bc_sharedKey_109 : decode jq_Bc_sharedKey.2.1 109 = .ok (.iload_n 1, 1) := by decide +kernel
theorem jd_Bc_sharedKey_110 : decode jq_Bc_sharedKey.2.1 110 = .ok (.iload_n 2, 1) := by decide +kernel
theorem jd_Bc_sharedKey_111 : decode jq_Bc_sharedKey.2.1 111 = .ok (.iload 4, 2) := by decide +kernel
theorem jd_Bc_sharedKey_113 : decode jq_Bc_sharedKey.2.1 113 = .ok (.iload 5, 2) := by decide +kernel
theorem jd_Bc_sharedKey_115 : decode jq_Bc_sharedKey.2.1 115 = .ok (.aload_n 3, 1) := by decide +kernel
theorem jd_Bc_sharedKey_116 : decode jq_Bc_sharedKey.2.1 116 = .ok (.invokespecial 223, 3) := by decide +kernel
theorem jd_Bc_sharedKey_119 : decode jq_Bc_sharedKey.2.1 119 = .ok (.areturn, 1) := by decide +kernel
theorem jd_Ca_ofProfile_0 : decode jq_Ca_ofProfile.2.1 0 = .ok (.iconst 0, 1) := by decide +kernel
theorem jd_Ca_ofProfile_1 : decode jq_Ca_ofProfile.2.1 1 = .ok (.istore_n 2, 1) := by decide +kernel
theorem jd_Ca_ofProfile_2 : decode jq_Ca_ofProfile.2.1 2 = .ok (.iconst 0, 1) := by decide +kernel
theorem jd_Ca_ofProfile_3 : decode jq_Ca_ofProfile.2.1 3 = .ok (.istore_n 3, 1) := by decide +kernel
theorem jd_Ca_ofProfile_4 : decode jq_Ca_ofProfile.2.1 4 = .ok (.iload_n 3, 1) := by decide +kernel
theorem jd_Ca_ofProfile_5 : decode jq_Ca_ofProfile.2.1 5 = .ok (.aload_n 0, 1) := by decide +kernel
theorem jd_Ca_ofProfile_6 : decode jq_Ca_ofProfile.2.1 6 = .ok (.getfield 18, 3) := by decide +kernel
theorem jd_Ca_ofProfile_9 : decode jq_Ca_ofProfile.2.1 9 = .ok (.invokevirtual 29, 3) := by decide +kernel
theorem jd_Ca_ofProfile_12 : decode jq_Ca_ofProfile.2.1 12 = .ok (.if_icmp .ge 42, 3) := by decide +kernel
theorem jd_Ca_ofProfile_15 : decode jq_Ca_ofProfile.2.1 15 = .ok (.aload_n 0, 1) := by decide +kernel
theorem jd_Ca_ofProfile_16 : decode jq_Ca_ofProfile.2.1 16 = .ok (.getfield 18, 3) := by decide +kernel
theorem jd_Ca_ofProfile_19 : decode jq_Ca_ofProfile.2.1 19 = .ok (.iload_n 3, 1) := by decide +kernel
theorem jd_Ca_ofProfile_20 : decode jq_Ca_ofProfile.2.1 20 = .ok (.invokevirtual 33, 3) := by decide +kernel
theorem jd_Ca_ofProfile_23 : decode jq_Ca_ofProfile.2.1 23 = .ok (.checkcast 37, 3) := by decide +kernel
theorem jd_Ca_ofProfile_26 : decode jq_Ca_ofProfile.2.1 26 = .ok (.getfield 43, 3) := by decide +kernel
theorem jd_Ca_ofProfile_29 : decode jq_Ca_ofProfile.2.1 29 = .ok (.istore 4, 2) := by decide +kernel
theorem jd_Ca_ofProfile_31 : decode jq_Ca_ofProfile.2.1 31 = .ok (.iload 4, 2) := by decide +kernel
theorem jd_Ca_ofProfile_33 : decode jq_Ca_ofProfile.2.1 33 = .ok (.ifCond .eq 9, 3) := by decide +kernel
theorem jd_Ca_ofProfile_36 : decode jq_Ca_ofProfile.2.1 36 = .ok (.iload 4, 2) := by decide +kernel
theorem jd_Ca_ofProfile_38 : decode jq_Ca_ofProfile.2.1 38 = .ok (.iload_n 1, 1) := by decide +kernel
theorem jd_Ca_ofProfile_39 : decode jq_Ca_ofProfile.2.1 39 = .ok (.if_icmp .ne 9, 3) := by decide +kernel
theorem jd_Ca_ofProfile_42 : decode jq_Ca_ofProfile.2.1 42 = .ok (.iload_n 2, 1) := by decide +kernel
theorem jd_Ca_ofProfile_43 : decode jq_Ca_ofProfile.2.1 43 = .ok (.iconst 1, 1) := by decide +kernel
theorem jd_Ca_ofProfile_44 : decode jq_Ca_ofProfile.2.1 44 = .ok (.iload_n 3, 1) := by decide +kernel
theorem jd_Ca_ofProfile_45 : decode jq_Ca_ofProfile.2.1 45 = .ok (.ishl, 1) := by decide +kernel
theorem jd_Ca_ofProfile_46 : decode jq_Ca_ofProfile.2.1 46 = .ok (.ior, 1) := by decide +kernel
theorem jd_Ca_ofProfile_47 : decode jq_Ca_ofProfile.2.1 47 = .ok (.istore_n 2, 1) := by decide +kernel
theorem jd_Ca_ofProfile_48 : decode jq_Ca_ofProfile.2.1 48 = .ok (.iinc 3 1, 3) := by decide +kernel
theorem jd_Ca_ofProfile_51 : decode jq_Ca_ofProfile.2.1 51 = .ok (.goto (-47), 3) := by decide +kernel
theorem jd_Ca_ofProfile_54 : decode jq_Ca_ofProfile.2.1 54 = .ok (.iload_n 2, 1) := by decide +kernel
theorem jd_Ca_ofProfile_55 : decode jq_Ca_ofProfile.2.1 55 = .ok (.ireturn, 1) := by decide +kernel
theorem jd_Ke_canBeParent_0 : decode jq_Ke_canBeParent.2.1 0 = .ok (.aload_n 0, 1) := by decide +kernel
theorem jd_Ke_canBeParent_1 : decode jq_Ke_canBeParent.2.1 1 = .ok (.getfield 25, 3) := by decide +kernel
theorem jd_Ke_canBeParent_4 : decode jq_Ke_canBeParent.2.1 4 = .ok (.ifnull 13, 3) := by decide +kernel
theorem jd_Ke_canBeParent_7 : decode jq_Ke_canBeParent.2.1 7 = .ok (.aload_n 0, 1) := by decide +kernel
theorem jd_Ke_canBeParent_8 : decode jq_Ke_canBeParent.2.1 8 = .ok (.getfield 25, 3) := by decide +kernel
theorem jd_Ke_canBeParent_11 : decode jq_Ke_canBeParent.2.1 11 = .ok (.getfield 25, 3) := by decide +kernel
theorem jd_Ke_canBeParent_14 : decode jq_Ke_canBeParent.2.1 14 = .ok (.ifnonnull 7, 3) := by decide +kernel
theorem jd_Ke_canBeParent_17 : decode jq_Ke_canBeParent.2.1 17 = .ok (.iconst 1, 1) := by decide +kernel
theorem jd_Ke_canBeParent_18 : decode jq_Ke_canBeParent.2.1 18 = .ok (.goto 4, 3) := by decide +kernel
theorem jd_Ke_canBeParent_21 : decode jq_Ke_canBeParent.2.1 21 = .ok (.iconst 0, 1) := by decide +kernel
theorem jd_Ke_canBeParent_22 : decode jq_Ke_canBeParent.2.1 22 = .ok (.ireturn, 1) := by decide +kernel
theorem jd_Arr_copyOfC_0 : decode jq_Arr_copyOfC.2.1 0 = .ok (.aload_n 2, 1) := by decide +kernel
theorem jd_Arr_copyOfC_1 : decode jq_Arr_copyOfC.2.1 1 = .ok (.ldc 110, 2) := by decide +kernel
theorem jd_Arr_copyOfC_3 : decode jq_Arr_copyOfC.2.1 3 = .ok (.if_acmp .ne 10, 3) := by decide +kernel
theorem jd_Arr_copyOfC_6 : decode jq_Arr_copyOfC.2.1 6 = .ok (.iload_n 1, 1) := by decide +kernel
theorem jd_Arr_copyOfC_7 : decode jq_Arr_copyOfC.2.1 7 = .ok (.anewarray 2, 3) := by decide +kernel
theorem jd_Arr_copyOfC_10 : decode jq_Arr_copyOfC.2.1 10 = .ok (.goto 14, 3) := by decide +kernel
theorem jd_Arr_copyOfC_13 : decode jq_Arr_copyOfC.2.1 13 = .ok (.aload_n 2, 1) := by decide +kernel
theorem jd_Arr_copyOfC_24 : decode jq_Arr_copyOfC.2.1 24 = .ok (.astore_n 3, 1) := by decide +kernel
theorem jd_Arr_copyOfC_25 : decode jq_Arr_copyOfC.2.1 25 = .ok (.aload_n 0, 1) := by decide +kernel
theorem jd_Arr_copyOfC_26 : decode jq_Arr_copyOfC.2.1 26 = .ok (.iconst 0, 1) := by decide +kernel
theorem jd_Arr_copyOfC_27 : decode jq_Arr_copyOfC.2.1 27 = .ok (.aload_n 3, 1) := by decide +kernel
theorem jd_Arr_copyOfC_28 : decode jq_Arr_copyOfC.2.1 28 = .ok (.iconst 0, 1) := by decide +kernel
theorem jd_Arr_copyOfC_29 : decode jq_Arr_copyOfC.2.1 29 = .ok (.aload_n 0, 1) := by decide +kernel
theorem jd_Arr_copyOfC_30 : decode jq_Arr_copyOfC.2.1 30 = .ok (.arraylength, 1) := by decide +kernel
theorem jd_Arr_copyOfC_31 : decode jq_Arr_copyOfC.2.1 31 = .ok (.iload_n 1, 1) := by decide +kernel
theorem jd_Arr_copyOfC_32 : decode jq_Arr_copyOfC.2.1 32 = .ok (.invokestatic 304, 3) := by decide +kernel
theorem jd_Arr_copyOfC_35 : decode jq_Arr_copyOfC.2.1 35 = .ok (.invokestatic 150, 3) := by decide +kernel
theorem jd_Arr_copyOfC_38 : decode jq_Arr_copyOfC.2.1 38 = .ok (.aload_n 3, 1) := by decide +kernel
theorem jd_Arr_copyOfC_39 : decode jq_Arr_copyOfC.2.1 39 = .ok (.areturn, 1) := by decide +kernel
theorem jd_Arr_copyOf_0 : decode jq_Arr_copyOf.2.1 0 = .ok (.aload_n 0, 1) := by decide +kernel
theorem jd_Arr_copyOf_1 : decode jq_Arr_copyOf.2.1 1 = .ok (.iload_n 1, 1) := by decide +kernel
theorem jd_Arr_copyOf_2 : decode jq_Arr_copyOf.2.1 2 = .ok (.aload_n 0, 1) := by decide +kernel
theorem jd_Arr_copyOf_3 : decode jq_Arr_copyOf.2.1 3 = .ok (.invokevirtual 86, 3) := by decide +kernel
theorem jd_Arr_copyOf_6 : decode jq_Arr_copyOf.2.1 6 = .ok (.invokestatic 300, 3) := by decide +kernel
theorem jd_Arr_copyOf_9 : decode jq_Arr_copyOf.2.1 9 = .ok (.areturn, 1) := by decide +kernel
theorem jd_ArS_hugeLength_0 : decode jq_ArS_hugeLength.2.1 0 = .ok (.iload_n 0, 1) := by decide +kernel
theorem jd_ArS_hugeLength_1 : decode jq_ArS_hugeLength.2.1 1 = .ok (.iload_n 1, 1) := by decide +kernel
theorem jd_ArS_hugeLength_2 : decode jq_ArS_hugeLength.2.1 2 = .ok (.iadd, 1) := by decide +kernel
theorem jd_ArS_hugeLength_3 : decode jq_ArS_hugeLength.2.1 3 = .ok (.istore_n 2, 1) := by decide +kernel
theorem jd_ArS_hugeLength_4 : decode jq_ArS_hugeLength.2.1 4 = .ok (.iload_n 2, 1) := by decide +kernel
theorem jd_ArS_hugeLength_5 : decode jq_ArS_hugeLength.2.1 5 = .ok (.ifCond .ge 44, 3) := by decide +kernel
theorem jd_ArS_hugeLength_49 : decode jq_ArS_hugeLength.2.1 49 = .ok (.iload_n 2, 1) := by decide +kernel
theorem jd_ArS_hugeLength_50 : decode jq_ArS_hugeLength.2.1 50 = .ok (.ldc 200, 2) := by decide +kernel
theorem jd_ArS_hugeLength_52 : decode jq_ArS_hugeLength.2.1 52 = .ok (.if_icmp .gt 6, 3) := by decide +kernel
theorem jd_ArS_hugeLength_55 : decode jq_ArS_hugeLength.2.1 55 = .ok (.ldc 200, 2) := by decide +kernel
theorem jd_ArS_hugeLength_57 : decode jq_ArS_hugeLength.2.1 57 = .ok (.ireturn, 1) := by decide +kernel
theorem jd_ArS_hugeLength_58 : decode jq_ArS_hugeLength.2.1 58 = .ok (.iload_n 2, 1) := by decide +kernel
theorem jd_ArS_hugeLength_59 : decode jq_ArS_hugeLength.2.1 59 = .ok (.ireturn, 1) := by decide +kernel
theorem jd_ArS_newLength_0 : decode jq_ArS_newLength.2.1 0 = .ok (.iload_n 0, 1) := by decide +kernel
theorem jd_ArS_newLength_1 : decode jq_ArS_newLength.2.1 1 = .ok (.iload_n 1, 1) := by decide +kernel
theorem jd_ArS_newLength_2 : decode jq_ArS_newLength.2.1 2 = .ok (.iload_n 2, 1) := by decide +kernel
theorem jd_ArS_newLength_3 : decode jq_ArS_newLength.2.1 3 = .ok (.invokestatic 194, 3) := by decide +kernel
theorem jd_ArS_newLength_6 : decode jq_ArS_newLength.2.1 6 = .ok (.iadd, 1) := by decide +kernel
theorem jd_ArS_newLength_7 : decode jq_ArS_newLength.2.1 7 = .ok (.istore_n 3, 1) := by decide +kernel
theorem jd_ArS_newLength_8 : decode jq_ArS_newLength.2.1 8 = .ok (.iconst 0, 1) := by decide +kernel
theorem jd_ArS_newLength_9 : decode jq_ArS_newLength.2.1 9 = .ok (.iload_n 3, 1) := by decide +kernel
theorem jd_ArS_newLength_10 : decode jq_ArS_newLength.2.1 10 = .ok (.if_icmp .ge 11, 3) := by decide +kernel
theorem jd_ArS_newLength_13 : decode jq_ArS_newLength.2.1 13 = .ok (.iload_n 3, 1) := by decide +kernel
theorem jd_ArS_newLength_14 : decode jq_ArS_newLength.2.1 14 = .ok (.ldc 200, 2) := by decide +kernel
theorem jd_ArS_newLength_16 : decode jq_ArS_newLength.2.1 16 = .ok (.if_icmp .gt 5, 3) := by decide +kernel
theorem jd_ArS_newLength_19 : decode jq_ArS_newLength.2.1 19 = .ok (.iload_n 3, 1) := by decide +kernel
theorem jd_ArS_newLength_20 : decode jq_ArS_newLength.2.1 20 = .ok (.ireturn, 1) := by decide +kernel
theorem jd_ArS_newLength_21 : decode jq_ArS_newLength.2.1 21 = .ok (.iload_n 0, 1) := by decide +kernel
theorem jd_ArS_newLength_22 : decode jq_ArS_newLength.2.1 22 = .ok (.iload_n 1, 1) := by decide +kernel
theorem jd_ArS_newLength_23 : decode jq_ArS_newLength.2.1 23 = .ok (.invokestatic 201, 3) := by decide +kernel
theorem jd_ArS_newLength_26 : decode jq_ArS_newLength.2.1 26 = .ok (.ireturn, 1) := by decide +kernel
theorem jd_AL_growTo_0 : decode jq_AL_growTo.2.1 0 = .ok (.aload_n 0, 1) := by decide +kernel
theorem jd_AL_growTo_1 : decode jq_AL_growTo.2.1 1 = .ok (.getfield 9, 3) := by decide +kernel
theorem jd_AL_growTo_4 : decode jq_AL_growTo.2.1 4 = .ok (.arraylength, 1) := by decide +kernel
theorem jd_AL_growTo_5 : decode jq_AL_growTo.2.1 5 = .ok (.istore_n 2, 1) := by decide +kernel
theorem jd_AL_growTo_6 : decode jq_AL_growTo.2.1 6 = .ok (.iload_n 2, 1) := by decide +kernel
theorem jd_AL_growTo_7 : decode jq_AL_growTo.2.1 7 = .ok (.ifCond .gt 13, 3) := by decide +kernel
theorem jd_AL_growTo_10 : decode jq_AL_growTo.2.1 10 = .ok (.aload_n 0, 1) := by decide +kernel
theorem jd_AL_growTo_11 : decode jq_AL_growTo.2.1 11 = .ok (.getfield 9, 3) := by decide +kernel
theorem jd_AL_growTo_14 : decode jq_AL_growTo.2.1 14 = .ok (.getstatic 39, 3) := by decide +kernel
theorem jd_AL_growTo_17 : decode jq_AL_growTo.2.1 17 = .ok (.if_acmp .eq 28, 3) := by decide +kernel
theorem jd_AL_growTo_20 : decode jq_AL_growTo.2.1 20 = .ok (.iload_n 2, 1) := by decide +kernel
theorem jd_AL_growTo_21 : decode jq_AL_growTo.2.1 21 = .ok (.iload_n 1, 1) := by decide +kernel
theorem jd_AL_growTo_22 : decode jq_AL_growTo.2.1 22 = .ok (.iload_n 2, 1) := by decide +kernel
theorem jd_AL_growTo_23 : decode jq_AL_growTo.2.1 23 = .ok (.isub, 1) := by decide +kernel
theorem jd_AL_growTo_24 : decode jq_AL_growTo.2.1 24 = .ok (.iload_n 2, 1) := by decide +kernel
theorem jd_AL_growTo_25 : decode jq_AL_growTo.2.1 25 = .ok (.iconst 1, 1) := by decide +kernel
theorem jd_AL_growTo_26 : decode jq_AL_growTo.2.1 26 = .ok (.ishr, 1) := by decide +kernel
theorem jd_AL_growTo_27 : decode jq_AL_growTo.2.1 27 = .ok (.invokestatic 73, 3) := by decide +kernel
theorem jd_AL_growTo_30 : decode jq_AL_growTo.2.1 30 = .ok (.istore_n 3, 1) := by decide +kernel
theorem jd_AL_growTo_31 : decode jq_AL_growTo.2.1 31 = .ok (.aload_n 0, 1) := by decide +kernel
theorem jd_AL_growTo_32 : decode jq_AL_growTo.2.1 32 = .ok (.aload_n 0, 1) := by decide +kernel
theorem jd_AL_growTo_33 : decode jq_AL_growTo.2.1 33 = .ok (.getfield 9, 3) := by decide +kernel
theorem jd_AL_growTo_36 : decode jq_AL_growTo.2.1 36 = .ok (.iload_n 3, 1) := by decide +kernel
theorem jd_AL_growTo_37 : decode jq_AL_growTo.2.1 37 = .ok (.invokestatic 66, 3) := by decide +kernel
theorem jd_AL_growTo_40 : decode jq_AL_growTo.2.1 40 = .ok (.dup_x1, 1) := by decide +kernel
theorem jd_AL_growTo_41 : decode jq_AL_growTo.2.1 41 = .ok (.putfield 9, 3) := by decide +kernel
theorem jd_AL_growTo_44 : decode jq_AL_growTo.2.1 44 = .ok (.areturn, 1) := by decide +kernel
theorem jd_AL_growTo_45 : decode jq_AL_growTo.2.1 45 = .ok (.aload_n 0, 1) := by decide +kernel
theorem jd_AL_growTo_46 : decode jq_AL_growTo.2.1 46 = .ok (.bipush 10, 2) := by decide +kernel
theorem jd_AL_growTo_48 : decode jq_AL_growTo.2.1 48 = .ok (.iload_n 1, 1) := by decide +kernel
theorem jd_AL_growTo_49 : decode jq_AL_growTo.2.1 49 = .ok (.invokestatic 79, 3) := by decide +kernel
theorem jd_AL_growTo_52 : decode jq_AL_growTo.2.1 52 = .ok (.anewarray 7, 3) := by decide +kernel
theorem jd_AL_growTo_55 : decode jq_AL_growTo.2.1 55 = .ok (.dup_x1, 1) := by decide +kernel
theorem jd_AL_growTo_56 : decode jq_AL_growTo.2.1 56 = .ok (.putfield 9, 3) := by decide +kernel
theorem jd_AL_growTo_59 : decode jq_AL_growTo.2.1 59 = .ok (.areturn, 1) := by decide +kernel
theorem jd_AL_grow_0 : decode jq_AL_grow.2.1 0 = .ok (.aload_n 0, 1) := by decide +kernel
theorem jd_AL_grow_1 : decode jq_AL_grow.2.1 1 = .ok (.aload_n 0, 1) := by decide +kernel
theorem jd_AL_grow_2 : decode jq_AL_grow.2.1 2 = .ok (.getfield 48, 3) := by decide +kernel
theorem jd_AL_grow_5 : decode jq_AL_grow.2.1 5 = .ok (.iconst 1, 1) := by decide +kernel
theorem jd_AL_grow_6 : decode jq_AL_grow.2.1 6 = .ok (.iadd, 1) := by decide +kernel
theorem jd_AL_grow_7 : decode jq_AL_grow.2.1 7 = .ok (.invokevirtual 69, 3) := by decide +kernel
theorem jd_AL_grow_10 : decode jq_AL_grow.2.1 10 = .ok (.areturn, 1) := by decide +kernel
theorem jd_AL_add3_0 : decode jq_AL_add3.2.1 0 = .ok (.iload_n 3, 1) := by decide +kernel
theorem jd_AL_add3_1 : decode jq_AL_add3.2.1 1 = .ok (.aload_n 2, 1) := by decide +kernel
theorem jd_AL_add3_2 : decode jq_AL_add3.2.1 2 = .ok (.arraylength, 1) := by decide +kernel
theorem jd_AL_add3_3 : decode jq_AL_add3.2.1 3 = .ok (.if_icmp .ne 8, 3) := by decide +kernel
theorem jd_AL_add3_6 : decode jq_AL_add3.2.1 6 = .ok (.aload_n 0, 1) := by decide +kernel
theorem jd_AL_add3_7 : decode jq_AL_add3.2.1 7 = .ok (.invokevirtual 129, 3) := by decide +kernel
theorem jd_AL_add3_10 : decode jq_AL_add3.2.1 10 = .ok (.astore_n 2, 1) := by decide +kernel
theorem jd_AL_add3_11 : decode jq_AL_add3.2.1 11 = .ok (.aload_n 2, 1) := by decide +kernel
theorem jd_AL_add3_12 : decode jq_AL_add3.2.1 12 = .ok (.iload_n 3, 1) := by decide +kernel
theorem jd_AL_add3_13 : decode jq_AL_add3.2.1 13 = .ok (.aload_n 1, 1) := by decide +kernel
theorem jd_AL_add3_14 : decode jq_AL_add3.2.1 14 = .ok (.aastore, 1) := by decide +kernel
theorem jd_AL_add3_15 : decode jq_AL_add3.2.1 15 = .ok (.aload_n 0, 1) := by decide +kernel
theorem jd_AL_add3_16 : decode jq_AL_add3.2.1 16 = .ok (.iload_n 3, 1) := by decide +kernel
theorem jd_AL_add3_17 : decode jq_AL_add3.2.1 17 = .ok (.iconst 1, 1) := by decide +kernel
theorem jd_AL_add3_18 : decode jq_AL_add3.2.1 18 = .ok (.iadd, 1) := by decide +kernel
theorem jd_AL_add3_19 : decode jq_AL_add3.2.1 19 = .ok (.putfield 48, 3) := by decide +kernel
theorem jd_AL_add3_22 : decode jq_AL_add3.2.1 22 = .ok (.return_, 1) := by decide +kernel
theorem jd_AL_add_0 : decode jq_AL_add.2.1 0 = .ok (.aload_n 0, 1) := by decide +kernel
theorem jd_AL_add_1 : decode jq_AL_add.2.1 1 = .ok (.dup, 1) := by decide +kernel
theorem jd_AL_add_2 : decode jq_AL_add.2.1 2 = .ok (.getfield 63, 3) := by decide +kernel
theorem jd_AL_add_5 : decode jq_AL_add.2.1 5 = .ok (.iconst 1, 1) := by decide +kernel
theorem jd_AL_add_6 : decode jq_AL_add.2.1 6 = .ok (.iadd, 1) := by decide +kernel
theorem jd_AL_add_7 : decode jq_AL_add.2.1 7 = .ok (.putfield 63, 3) := by decide +kernel
theorem jd_AL_add_10 : decode jq_AL_add.2.1 10 = .ok (.aload_n 0, 1) := by decide +kernel
theorem jd_AL_add_11 : decode jq_AL_add.2.1 11 = .ok (.aload_n 1, 1) := by decide +kernel
theorem jd_AL_add_12 : decode jq_AL_add.2.1 12 = .ok (.aload_n 0, 1) := by decide +kernel
theorem jd_AL_add_13 : decode jq_AL_add.2.1 13 = .ok (.getfield 9, 3) := by decide +kernel
theorem jd_AL_add_16 : decode jq_AL_add.2.1 16 = .ok (.aload_n 0, 1) := by decide +kernel
theorem jd_AL_add_17 : decode jq_AL_add.2.1 17 = .ok (.getfield 48, 3) := by decide +kernel
theorem jd_AL_add_20 : decode jq_AL_add.2.1 20 = .ok (.invokevirtual 131, 3) := by decide +kernel
theorem jd_AL_add_23 : decode jq_AL_add.2.1 23 = .ok (.iconst 1, 1) := by decide +kernel
theorem jd_AL_add_24 : decode jq_AL_add.2.1 24 = .ok (.ireturn, 1) := by decide +kernel
theorem jd_Bc_configure_0 : decode jq_Bc_configure.2.1 0 = .ok (.aload_n 0, 1) := by decide +kernel
theorem jd_Bc_configure_1 : decode jq_Bc_configure.2.1 1 = .ok (.getfield 19, 3) := by decide +kernel
theorem jd_Bc_configure_4 : decode jq_Bc_configure.2.1 4 = .ok (.invokevirtual 111, 3) := by decide +kernel
theorem jd_Bc_configure_7 : decode jq_Bc_configure.2.1 7 = .ok (.bipush 8, 2) := by decide +kernel
theorem jd_Bc_configure_9 : decode jq_Bc_configure.2.1 9 = .ok (.if_icmp .ge 10, 3) := by decide +kernel
theorem jd_Bc_configure_12 : decode jq_Bc_configure.2.1 12 = .ok (.iload_n 2, 1) := by decide +kernel
theorem jd_Bc_configure_13 : decode jq_Bc_configure.2.1 13 = .ok (.invokestatic 83, 3) := by decide +kernel
theorem jd_Bc_configure_16 : decode jq_Bc_configure.2.1 16 = .ok (.ifCond .ne 5, 3) := by decide +kernel
theorem jd_Bc_configure_19 : decode jq_Bc_configure.2.1 19 = .ok (.iconst (-1), 1) := by decide +kernel
theorem jd_Bc_configure_20 : decode jq_Bc_configure.2.1 20 = .ok (.ireturn, 1) := by decide +kernel
theorem jd_Bc_configure_21 : decode jq_Bc_configure.2.1 21 = .ok (.iload_n 3, 1) := by decide +kernel
theorem jd_Bc_configure_22 : decode jq_Bc_configure.2.1 22 = .ok (.iconst (-1), 1) := by decide +kernel
theorem jd_Bc_configure_23 : decode jq_Bc_configure.2.1 23 = .ok (.if_icmp .eq 30, 3) := by decide +kernel
theorem jd_Bc_configure_26 : decode jq_Bc_configure.2.1 26 = .ok (.aload_n 0, 1) := by decide +kernel
theorem jd_Bc_configure_27 : decode jq_Bc_configure.2.1 27 = .ok (.iload_n 3, 1) := by decide +kernel
theorem jd_Bc_configure_28 : decode jq_Bc_configure.2.1 28 = .ok (.invokevirtual 112, 3) := by decide +kernel
theorem jd_Bc_configure_31 : decode jq_Bc_configure.2.1 31 = .ok (.ifCond .eq 20, 3) := by decide +kernel
theorem jd_Bc_configure_34 : decode jq_Bc_configure.2.1 34 = .ok (.aload_n 0, 1) := by decide +kernel
theorem jd_Bc_configure_35 : decode jq_Bc_configure.2.1 35 = .ok (.getfield 19, 3) := by decide +kernel
theorem jd_Bc_configure_38 : decode jq_Bc_configure.2.1 38 = .ok (.iload_n 3, 1) := by decide +kernel
theorem jd_Bc_configure_39 : decode jq_Bc_configure.2.1 39 = .ok (.invokevirtual 115, 3) := by decide +kernel
theorem jd_Bc_configure_42 : decode jq_Bc_configure.2.1 42 = .ok (.checkcast 119, 3) := by decide +kernel
theorem jd_Bc_configure_45 : decode jq_Bc_configure.2.1 45 = .ok (.invokevirtual 121, 3) := by decide +kernel
theorem jd_Bc_configure_48 : decode jq_Bc_configure.2.1 48 = .ok (.ifCond .ne 5, 3) := by decide +kernel
theorem jd_Bc_configure_51 : decode jq_Bc_configure.2.1 51 = .ok (.iconst (-1), 1) := by decide +kernel
theorem jd_Bc_configure_52 : decode jq_Bc_configure.2.1 52 = .ok (.ireturn, 1) := by decide +kernel
theorem jd_Bc_configure_53 : decode jq_Bc_configure.2.1 53 = .ok (.iload_n 3, 1) := by decide +kernel
theorem jd_Bc_configure_54 : decode jq_Bc_configure.2.1 54 = .ok (.iconst (-1), 1) := by decide +kernel
theorem jd_Bc_configure_55 : decode jq_Bc_configure.2.1 55 = .ok (.if_icmp .ne 7, 3) := by decide +kernel
theorem jd_Bc_configure_58 : decode jq_Bc_configure.2.1 58 = .ok (.aconst_null, 1) := by decide +kernel
theorem jd_Bc_configure_59 : decode jq_Bc_configure.2.1 59 = .ok (.goto 14, 3) := by decide +kernel
theorem jd_Bc_configure_62 : decode jq_Bc_configure.2.1 62 = .ok (.aload_n 0, 1) := by decide +kernel
theorem jd_Bc_configure_63 : decode jq_Bc_configure.2.1 63 = .ok (.getfield 19, 3) := by decide +kernel
theorem jd_Bc_configure_66 : decode jq_Bc_configure.2.1 66 = .ok (.iload_n 3, 1) := by decide +kernel
theorem jd_Bc_configure_67 : decode jq_Bc_configure.2.1 67 = .ok (.invokevirtual 115, 3) := by decide +kernel
theorem jd_Bc_configure_70 : decode jq_Bc_configure.2.1 70 = .ok (.checkcast 119, 3) := by decide +kernel
theorem jd_Bc_configure_73 : decode jq_Bc_configure.2.1 73 = .ok (.astore 5, 2) := by decide +kernel
theorem jd_Bc_configure_75 : decode jq_Bc_configure.2.1 75 = .ok (.iload_n 1, 1) := by decide +kernel
theorem jd_Bc_configure_76 : decode jq_Bc_configure.2.1 76 = .ok (.aload_n 0, 1) := by decide +kernel
theorem jd_Bc_configure_77 : decode jq_Bc_configure.2.1 77 = .ok (.getfield 10, 3) := by decide +kernel
theorem jd_Bc_configure_80 : decode jq_Bc_configure.2.1 80 = .ok (.iload_n 2, 1) := by decide +kernel
theorem jd_Bc_configure_81 : decode jq_Bc_configure.2.1 81 = .ok (.invokevirtual 124, 3) := by decide +kernel
theorem jd_Bc_configure_84 : decode jq_Bc_configure.2.1 84 = .ok (.iand, 1) := by decide +kernel
theorem jd_Bc_configure_85 : decode jq_Bc_configure.2.1 85 = .ok (.istore 6, 2) := by decide +kernel
theorem jd_Bc_configure_87 : decode jq_Bc_configure.2.1 87 = .ok (.aload_n 0, 1) := by decide +kernel
theorem jd_Bc_configure_88 : decode jq_Bc_configure.2.1 88 = .ok (.getfield 19, 3) := by decide +kernel
theorem jd_Bc_configure_91 : decode jq_Bc_configure.2.1 91 = .ok (.aload_n 0, 1) := by decide +kernel
theorem jd_Bc_configure_92 : decode jq_Bc_configure.2.1 92 = .ok (.iload 6, 2) := by decide +kernel
theorem jd_Bc_configure_94 : decode jq_Bc_configure.2.1 94 = .ok (.iload 6, 2) := by decide +kernel
theorem jd_Bc_configure_96 : decode jq_Bc_configure.2.1 96 = .ok (.iload 4, 2) := by decide +kernel
theorem jd_Bc_configure_98 : decode jq_Bc_configure.2.1 98 = .ok (.iand, 1) := by decide +kernel
theorem jd_Bc_configure_99 : decode jq_Bc_configure.2.1 99 = .ok (.aload 5, 2) := by decide +kernel
theorem jd_Bc_configure_101 : decode jq_Bc_configure.2.1 101 = .ok (.invokevirtual 128, 3) := by decide +kernel
theorem jd_Bc_configure_104 : decode jq_Bc_configure.2.1 104 = .ok (.invokevirtual 132, 3) := by decide +kernel
theorem jd_Bc_configure_107 : decode jq_Bc_configure.2.1 107 = .ok (.pop, 1) := by decide +kernel
theorem jd_Bc_configure_108 : decode jq_Bc_configure.2.1 108 = .ok (.aload_n 0, 1) := by decide +kernel
theorem jd_Bc_configure_109 : decode jq_Bc_configure.2.1 109 = .ok (.getfield 19, 3) := by decide +kernel
theorem jd_Bc_configure_112 : decode jq_Bc_configure.2.1 112 = .ok (.invokevirtual 111, 3) := by decide +kernel
theorem jd_Bc_configure_115 : decode jq_Bc_configure.2.1 115 = .ok (.iconst 1, 1) := by decide +kernel
theorem jd_Bc_configure_116 : decode jq_Bc_configure.2.1 116 = .ok (.isub, 1) := by decide +kernel
theorem jd_Bc_configure_117 : decode jq_Bc_configure.2.1 117 = .ok (.ireturn, 1) := by decide +kernel
theorem jd_Bc_isQualifier_0 : decode jq_Bc_isQualifier.2.1 0 = .ok (.iload_n 0, 1) := by decide +kernel
theorem jd_Bc_isQualifier_1 : decode jq_Bc_isQualifier.2.1 1 = .ok (.iconst 4, 1) := by decide +kernel
theorem jd_Bc_isQualifier_2 : decode jq_Bc_isQualifier.2.1 2 = .ok (.invokestatic 77, 3) := by decide +kernel
theorem jd_Bc_isQualifier_5 : decode jq_Bc_isQualifier.2.1 5 = .ok (.ireturn, 1) := by decide +kernel
theorem jd_Bc_isType_0 : decode jq_Bc_isType.2.1 0 = .ok (.iload_n 0, 1) := by decide +kernel
theorem jd_Bc_isType_1 : decode jq_Bc_isType.2.1 1 = .ok (.bipush 6, 2) := by decide +kernel
theorem jd_Bc_isType_3 : decode jq_Bc_isType.2.1 3 = .ok (.invokestatic 77, 3) := by decide +kernel
theorem jd_Bc_isType_6 : decode jq_Bc_isType.2.1 6 = .ok (.ireturn, 1) := by decide +kernel
theorem jd_Ca_add_0 : decode jq_Ca_add.2.1 0 = .ok (.aload_n 0, 1) := by decide +kernel
theorem jd_Ca_add_1 : decode jq_Ca_add.2.1 1 = .ok (.getfield 18, 3) := by decide +kernel
theorem jd_Ca_add_4 : decode jq_Ca_add.2.1 4 = .ok (.aload_n 1, 1) := by decide +kernel
theorem jd_Ca_add_5 : decode jq_Ca_add.2.1 5 = .ok (.invokevirtual 39, 3) := by decide +kernel
theorem jd_Ca_add_8 : decode jq_Ca_add.2.1 8 = .ok (.pop, 1) := by decide +kernel
theorem jd_Ca_add_9 : decode jq_Ca_add.2.1 9 = .ok (.aload_n 0, 1) := by decide +kernel
theorem jd_Ca_add_10 : decode jq_Ca_add.2.1 10 = .ok (.getfield 18, 3) := by decide +kernel
theorem jd_Ca_add_13 : decode jq_Ca_add.2.1 13 = .ok (.invokevirtual 29, 3) := by decide +kernel
theorem jd_Ca_add_16 : decode jq_Ca_add.2.1 16 = .ok (.iconst 1, 1) := by decide +kernel
theorem jd_Ca_add_17 : decode jq_Ca_add.2.1 17 = .ok (.isub, 1) := by decide +kernel
theorem jd_Ca_add_18 : decode jq_Ca_add.2.1 18 = .ok (.ireturn, 1) := by decide +kernel
theorem jd_Ca_size_0 : decode jq_Ca_size.2.1 0 = .ok (.aload_n 0, 1) := by decide +kernel
theorem jd_Ca_size_1 : decode jq_Ca_size.2.1 1 = .ok (.getfield 18, 3) := by decide +kernel
theorem jd_Ca_size_4 : decode jq_Ca_size.2.1 4 = .ok (.invokevirtual 29, 3) := by decide +kernel
theorem jd_Ca_size_7 : decode jq_Ca_size.2.1 7 = .ok (.ireturn, 1) := by decide +kernel
theorem jd_De_init_0 : decode jq_De_init.2.1 0 = .ok (.aload_n 0, 1) := by decide +kernel
theorem jd_De_init_1 : decode jq_De_init.2.1 1 = .ok (.invokespecial 3, 3) := by decide +kernel
theorem jd_De_init_4 : decode jq_De_init.2.1 4 = .ok (.aload_n 0, 1) := by decide +kernel
theorem jd_De_init_5 : decode jq_De_init.2.1 5 = .ok (.new 9, 3) := by decide +kernel
theorem jd_De_init_8 : decode jq_De_init.2.1 8 = .ok (.dup, 1) := by decide +kernel
theorem jd_De_init_9 : decode jq_De_init.2.1 9 = .ok (.invokespecial 11, 3) := by decide +kernel
theorem jd_De_init_12 : decode jq_De_init.2.1 12 = .ok (.putfield 12, 3) := by decide +kernel
theorem jd_De_init_15 : decode jq_De_init.2.1 15 = .ok (.aload_n 0, 1) := by decide +kernel
theorem jd_De_init_16 : decode jq_De_init.2.1 16 = .ok (.iload_n 1, 1) := by decide +kernel
theorem jd_De_init_17 : decode jq_De_init.2.1 17 = .ok (.putfield 18, 3) := by decide +kernel
theorem jd_De_init_20 : decode jq_De_init.2.1 20 = .ok (.aload_n 0, 1) := by decide +kernel
theorem jd_De_init_21 : decode jq_De_init.2.1 21 = .ok (.iload_n 2, 1) := by decide +kernel
theorem jd_De_init_22 : decode jq_De_init.2.1 22 = .ok (.putfield 22, 3) := by decide +kernel
theorem jd_De_init_25 : decode jq_De_init.2.1 25 = .ok (.aload_n 0, 1) := by decide +kernel
theorem jd_De_init_26 : decode jq_De_init.2.1 26 = .ok (.iload_n 3, 1) := by decide +kernel
theorem jd_De_init_27 : decode jq_De_init.2.1 27 = .ok (.putfield 25, 3) := by decide +kernel
theorem jd_De_init_30 : decode jq_De_init.2.1 30 = .ok (.aload_n 0, 1) := by decide +kernel
theorem jd_De_init_31 : decode jq_De_init.2.1 31 = .ok (.iload 4, 2) := by decide +kernel
theorem jd_De_init_33 : decode jq_De_init.2.1 33 = .ok (.putfield 28, 3) := by decide +kernel
theorem jd_De_init_36 : decode jq_De_init.2.1 36 = .ok (.return_, 1) := by decide +kernel
theorem jd_AL_isEmpty_0 : decode jq_AL_isEmpty.2.1 0 = .ok (.aload_n 0, 1) := by decide +kernel
theorem jd_AL_isEmpty_1 : decode jq_AL_isEmpty.2.1 1 = .ok (.getfield 48, 3) := by decide +kernel
theorem jd_AL_isEmpty_4 : decode jq_AL_isEmpty.2.1 4 = .ok (.ifCond .ne 7, 3) := by decide +kernel
theorem jd_AL_isEmpty_7 : decode jq_AL_isEmpty.2.1 7 = .ok (.iconst 1, 1) := by decide +kernel
theorem jd_AL_isEmpty_8 : decode jq_AL_isEmpty.2.1 8 = .ok (.goto 4, 3) := by decide +kernel
theorem jd_AL_isEmpty_11 : decode jq_AL_isEmpty.2.1 11 = .ok (.iconst 0, 1) := by decide +kernel
theorem jd_AL_isEmpty_12 : decode jq_AL_isEmpty.2.1 12 = .ok (.ireturn, 1) := by decide +kernel
theorem jd_Bc_define_0 : decode jq_Bc_define.2.1 0 = .ok (.aload_n 0, 1) := by decide +kernel
theorem jd_Bc_define_1 : decode jq_Bc_define.2.1 1 = .ok (.getfield 19, 3) := by decide +kernel
theorem jd_Bc_define_4 : decode jq_Bc_define.2.1 4 = .ok (.invokevirtual 57, 3) := by decide +kernel
theorem jd_Bc_define_7 : decode jq_Bc_define.2.1 7 = .ok (.ifCond .eq 15, 3) := by decide +kernel
theorem jd_Bc_define_10 : decode jq_Bc_define.2.1 10 = .ok (.aload_n 0, 1) := by decide +kernel
theorem jd_Bc_define_11 : decode jq_Bc_define.2.1 11 = .ok (.getfield 10, 3) := by decide +kernel
theorem jd_Bc_define_14 : decode jq_Bc_define.2.1 14 = .ok (.invokevirtual 73, 3) := by decide +kernel
theorem jd_Bc_define_17 : decode jq_Bc_define.2.1 17 = .ok (.bipush 10, 2) := by decide +kernel
theorem jd_Bc_define_19 : decode jq_Bc_define.2.1 19 = .ok (.if_icmp .lt 5, 3) := by decide +kernel
theorem jd_Bc_define_22 : decode jq_Bc_define.2.1 22 = .ok (.iconst (-1), 1) := by decide +kernel
theorem jd_Bc_define_23 : decode jq_Bc_define.2.1 23 = .ok (.ireturn, 1) := by decide +kernel
theorem jd_Bc_define_24 : decode jq_Bc_define.2.1 24 = .ok (.iload_n 1, 1) := by decide +kernel
theorem jd_Bc_define_25 : decode jq_Bc_define.2.1 25 = .ok (.invokestatic 61, 3) := by decide +kernel
