/-! What each instruction is. -/
theorem jd_Bc_define_28 : decode jq_Bc_define.2.1 28 = .ok (.ifCond .eq 27, 3) := by decide +kernel
theorem jd_Bc_define_31 : decode jq_Bc_define.2.1 31 = .ok (.iload_n 2, 1) := by decide +kernel
theorem jd_Bc_define_32 : decode jq_Bc_define.2.1 32 = .ok (.bipush 16, 2) := by decide +kernel
theorem jd_Bc_define_34 : decode jq_Bc_define.2.1 34 = .ok (.invokestatic 77, 3) := by decide +kernel
theorem jd_Bc_define_37 : decode jq_Bc_define.2.1 37 = .ok (.ifCond .eq 18, 3) := by decide +kernel
theorem jd_Bc_define_40 : decode jq_Bc_define.2.1 40 = .ok (.iload_n 3, 1) := by decide +kernel
theorem jd_Bc_define_41 : decode jq_Bc_define.2.1 41 = .ok (.invokestatic 80, 3) := by decide +kernel
theorem jd_Bc_define_44 : decode jq_Bc_define.2.1 44 = .ok (.ifCond .eq 11, 3) := by decide +kernel
theorem jd_Bc_define_47 : decode jq_Bc_define.2.1 47 = .ok (.iload 4, 2) := by decide +kernel
theorem jd_Bc_define_49 : decode jq_Bc_define.2.1 49 = .ok (.invokestatic 83, 3) := by decide +kernel
theorem jd_Bc_define_52 : decode jq_Bc_define.2.1 52 = .ok (.ifCond .ne 5, 3) := by decide +kernel
theorem jd_Bc_define_55 : decode jq_Bc_define.2.1 55 = .ok (.iconst (-1), 1) := by decide +kernel
theorem jd_Bc_define_56 : decode jq_Bc_define.2.1 56 = .ok (.ireturn, 1) := by decide +kernel
theorem jd_Bc_define_57 : decode jq_Bc_define.2.1 57 = .ok (.aload_n 0, 1) := by decide +kernel
theorem jd_Bc_define_58 : decode jq_Bc_define.2.1 58 = .ok (.getfield 10, 3) := by decide +kernel
theorem jd_Bc_define_61 : decode jq_Bc_define.2.1 61 = .ok (.new 86, 3) := by decide +kernel
theorem jd_Bc_define_64 : decode jq_Bc_define.2.1 64 = .ok (.dup, 1) := by decide +kernel
theorem jd_Bc_define_65 : decode jq_Bc_define.2.1 65 = .ok (.iload_n 1, 1) := by decide +kernel
theorem jd_Bc_define_66 : decode jq_Bc_define.2.1 66 = .ok (.iload_n 2, 1) := by decide +kernel
theorem jd_Bc_define_67 : decode jq_Bc_define.2.1 67 = .ok (.iload_n 3, 1) := by decide +kernel
theorem jd_Bc_define_68 : decode jq_Bc_define.2.1 68 = .ok (.iload 4, 2) := by decide +kernel
theorem jd_Bc_define_70 : decode jq_Bc_define.2.1 70 = .ok (.invokespecial 88, 3) := by decide +kernel
theorem jd_Bc_define_73 : decode jq_Bc_define.2.1 73 = .ok (.invokevirtual 91, 3) := by decide +kernel
theorem jd_Bc_define_76 : decode jq_Bc_define.2.1 76 = .ok (.ireturn, 1) := by decide +kernel
theorem jd_Bc_definition_0 : decode jq_Bc_definition.2.1 0 = .ok (.aload_n 0, 1) := by decide +kernel
theorem jd_Bc_definition_1 : decode jq_Bc_definition.2.1 1 = .ok (.getfield 35, 3) := by decide +kernel
theorem jd_Bc_definition_4 : decode jq_Bc_definition.2.1 4 = .ok (.iload_n 1, 1) := by decide +kernel
theorem jd_Bc_definition_5 : decode jq_Bc_definition.2.1 5 = .ok (.invokevirtual 162, 3) := by decide +kernel
theorem jd_Bc_definition_8 : decode jq_Bc_definition.2.1 8 = .ok (.astore_n 2, 1) := by decide +kernel
theorem jd_Bc_definition_9 : decode jq_Bc_definition.2.1 9 = .ok (.aload_n 2, 1) := by decide +kernel
theorem jd_Bc_definition_10 : decode jq_Bc_definition.2.1 10 = .ok (.ifnonnull 7, 3) := by decide +kernel
theorem jd_Bc_definition_13 : decode jq_Bc_definition.2.1 13 = .ok (.iconst (-1), 1) := by decide +kernel
theorem jd_Bc_definition_14 : decode jq_Bc_definition.2.1 14 = .ok (.goto 7, 3) := by decide +kernel
theorem jd_Bc_definition_17 : decode jq_Bc_definition.2.1 17 = .ok (.aload_n 2, 1) := by decide +kernel
theorem jd_Bc_definition_18 : decode jq_Bc_definition.2.1 18 = .ok (.getfield 193, 3) := by decide +kernel
theorem jd_Bc_definition_21 : decode jq_Bc_definition.2.1 21 = .ok (.ireturn, 1) := by decide +kernel
theorem jd_Sh_cachedFor_0 : decode jq_Sh_cachedFor.2.1 0 = .ok (.iconst 0, 1) := by decide +kernel
theorem jd_Sh_cachedFor_1 : decode jq_Sh_cachedFor.2.1 1 = .ok (.istore_n 2, 1) := by decide +kernel
theorem jd_Sh_cachedFor_2 : decode jq_Sh_cachedFor.2.1 2 = .ok (.iload_n 2, 1) := by decide +kernel
theorem jd_Sh_cachedFor_3 : decode jq_Sh_cachedFor.2.1 3 = .ok (.aload_n 0, 1) := by decide +kernel
theorem jd_Sh_cachedFor_4 : decode jq_Sh_cachedFor.2.1 4 = .ok (.getfield 18, 3) := by decide +kernel
theorem jd_Sh_cachedFor_7 : decode jq_Sh_cachedFor.2.1 7 = .ok (.invokevirtual 33, 3) := by decide +kernel
theorem jd_Sh_cachedFor_10 : decode jq_Sh_cachedFor.2.1 10 = .ok (.if_icmp .ge 39, 3) := by decide +kernel
theorem jd_Sh_cachedFor_13 : decode jq_Sh_cachedFor.2.1 13 = .ok (.aload_n 0, 1) := by decide +kernel
theorem jd_Sh_cachedFor_14 : decode jq_Sh_cachedFor.2.1 14 = .ok (.getfield 18, 3) := by decide +kernel
theorem jd_Sh_cachedFor_17 : decode jq_Sh_cachedFor.2.1 17 = .ok (.iload_n 2, 1) := by decide +kernel
theorem jd_Sh_cachedFor_18 : decode jq_Sh_cachedFor.2.1 18 = .ok (.invokevirtual 37, 3) := by decide +kernel
theorem jd_Sh_cachedFor_21 : decode jq_Sh_cachedFor.2.1 21 = .ok (.checkcast 41, 3) := by decide +kernel
theorem jd_Sh_cachedFor_24 : decode jq_Sh_cachedFor.2.1 24 = .ok (.getfield 43, 3) := by decide +kernel
theorem jd_Sh_cachedFor_27 : decode jq_Sh_cachedFor.2.1 27 = .ok (.aload_n 1, 1) := by decide +kernel
theorem jd_Sh_cachedFor_28 : decode jq_Sh_cachedFor.2.1 28 = .ok (.if_acmp .ne 15, 3) := by decide +kernel
theorem jd_Sh_cachedFor_31 : decode jq_Sh_cachedFor.2.1 31 = .ok (.aload_n 0, 1) := by decide +kernel
theorem jd_Sh_cachedFor_32 : decode jq_Sh_cachedFor.2.1 32 = .ok (.getfield 18, 3) := by decide +kernel
theorem jd_Sh_cachedFor_35 : decode jq_Sh_cachedFor.2.1 35 = .ok (.iload_n 2, 1) := by decide +kernel
theorem jd_Sh_cachedFor_36 : decode jq_Sh_cachedFor.2.1 36 = .ok (.invokevirtual 37, 3) := by decide +kernel
theorem jd_Sh_cachedFor_39 : decode jq_Sh_cachedFor.2.1 39 = .ok (.checkcast 41, 3) := by decide +kernel
theorem jd_Sh_cachedFor_42 : decode jq_Sh_cachedFor.2.1 42 = .ok (.areturn, 1) := by decide +kernel
theorem jd_Sh_cachedFor_43 : decode jq_Sh_cachedFor.2.1 43 = .ok (.iinc 2 1, 3) := by decide +kernel
theorem jd_Sh_cachedFor_46 : decode jq_Sh_cachedFor.2.1 46 = .ok (.goto (-44), 3) := by decide +kernel
theorem jd_Sh_cachedFor_49 : decode jq_Sh_cachedFor.2.1 49 = .ok (.aconst_null, 1) := by decide +kernel
theorem jd_Sh_cachedFor_50 : decode jq_Sh_cachedFor.2.1 50 = .ok (.areturn, 1) := by decide +kernel
theorem jd_Bc_contextOf_0 : decode jq_Bc_contextOf.2.1 0 = .ok (.aload_n 0, 1) := by decide +kernel
theorem jd_Bc_contextOf_1 : decode jq_Bc_contextOf.2.1 1 = .ok (.iload_n 1, 1) := by decide +kernel
theorem jd_Bc_contextOf_2 : decode jq_Bc_contextOf.2.1 2 = .ok (.invokevirtual 112, 3) := by decide +kernel
theorem jd_Bc_contextOf_5 : decode jq_Bc_contextOf.2.1 5 = .ok (.ifCond .eq 24, 3) := by decide +kernel
theorem jd_Bc_contextOf_8 : decode jq_Bc_contextOf.2.1 8 = .ok (.aload_n 0, 1) := by decide +kernel
theorem jd_Bc_contextOf_9 : decode jq_Bc_contextOf.2.1 9 = .ok (.getfield 53, 3) := by decide +kernel
theorem jd_Bc_contextOf_12 : decode jq_Bc_contextOf.2.1 12 = .ok (.aload_n 0, 1) := by decide +kernel
theorem jd_Bc_contextOf_13 : decode jq_Bc_contextOf.2.1 13 = .ok (.getfield 19, 3) := by decide +kernel
theorem jd_Bc_contextOf_16 : decode jq_Bc_contextOf.2.1 16 = .ok (.iload_n 1, 1) := by decide +kernel
theorem jd_Bc_contextOf_17 : decode jq_Bc_contextOf.2.1 17 = .ok (.invokevirtual 115, 3) := by decide +kernel
theorem jd_Bc_contextOf_20 : decode jq_Bc_contextOf.2.1 20 = .ok (.checkcast 119, 3) := by decide +kernel
theorem jd_Bc_contextOf_23 : decode jq_Bc_contextOf.2.1 23 = .ok (.invokevirtual 206, 3) := by decide +kernel
theorem jd_Bc_contextOf_26 : decode jq_Bc_contextOf.2.1 26 = .ok (.goto 4, 3) := by decide +kernel
theorem jd_Bc_contextOf_29 : decode jq_Bc_contextOf.2.1 29 = .ok (.aconst_null, 1) := by decide +kernel
theorem jd_Bc_contextOf_30 : decode jq_Bc_contextOf.2.1 30 = .ok (.areturn, 1) := by decide +kernel
theorem jd_Jo_write_0 : decode jq_Jo_write.2.1 0 = .ok (.aload_n 0, 1) := by decide +kernel
theorem jd_Jo_write_1 : decode jq_Jo_write.2.1 1 = .ok (.getfield 9, 3) := by decide +kernel
theorem jd_Jo_write_4 : decode jq_Jo_write.2.1 4 = .ok (.aload_n 0, 1) := by decide +kernel
theorem jd_Jo_write_5 : decode jq_Jo_write.2.1 5 = .ok (.getfield 15, 3) := by decide +kernel
theorem jd_Jo_write_8 : decode jq_Jo_write.2.1 8 = .ok (.bipush 32, 2) := by decide +kernel
theorem jd_Jo_write_10 : decode jq_Jo_write.2.1 10 = .ok (.irem, 1) := by decide +kernel
theorem jd_Jo_write_11 : decode jq_Jo_write.2.1 11 = .ok (.bipush 64, 2) := by decide +kernel
theorem jd_Jo_write_13 : decode jq_Jo_write.2.1 13 = .ok (.iload_n 1, 1) := by decide +kernel
theorem jd_Jo_write_14 : decode jq_Jo_write.2.1 14 = .ok (.imul, 1) := by decide +kernel
theorem jd_Jo_write_15 : decode jq_Jo_write.2.1 15 = .ok (.iload_n 2, 1) := by decide +kernel
theorem jd_Jo_write_16 : decode jq_Jo_write.2.1 16 = .ok (.iadd, 1) := by decide +kernel
theorem jd_Jo_write_17 : decode jq_Jo_write.2.1 17 = .ok (.iastore, 1) := by decide +kernel
theorem jd_Jo_write_18 : decode jq_Jo_write.2.1 18 = .ok (.aload_n 0, 1) := by decide +kernel
theorem jd_Jo_write_19 : decode jq_Jo_write.2.1 19 = .ok (.dup, 1) := by decide +kernel
theorem jd_Jo_write_20 : decode jq_Jo_write.2.1 20 = .ok (.getfield 15, 3) := by decide +kernel
theorem jd_Jo_write_23 : decode jq_Jo_write.2.1 23 = .ok (.iconst 1, 1) := by decide +kernel
theorem jd_Jo_write_24 : decode jq_Jo_write.2.1 24 = .ok (.iadd, 1) := by decide +kernel
theorem jd_Jo_write_25 : decode jq_Jo_write.2.1 25 = .ok (.putfield 15, 3) := by decide +kernel
theorem jd_Jo_write_28 : decode jq_Jo_write.2.1 28 = .ok (.return_, 1) := by decide +kernel
theorem jd_AL_fastRemove_0 : decode jq_AL_fastRemove.2.1 0 = .ok (.aload_n 0, 1) := by decide +kernel
theorem jd_AL_fastRemove_1 : decode jq_AL_fastRemove.2.1 1 = .ok (.dup, 1) := by decide +kernel
theorem jd_AL_fastRemove_2 : decode jq_AL_fastRemove.2.1 2 = .ok (.getfield 63, 3) := by decide +kernel
theorem jd_AL_fastRemove_5 : decode jq_AL_fastRemove.2.1 5 = .ok (.iconst 1, 1) := by decide +kernel
theorem jd_AL_fastRemove_6 : decode jq_AL_fastRemove.2.1 6 = .ok (.iadd, 1) := by decide +kernel
theorem jd_AL_fastRemove_7 : decode jq_AL_fastRemove.2.1 7 = .ok (.putfield 63, 3) := by decide +kernel
theorem jd_AL_fastRemove_10 : decode jq_AL_fastRemove.2.1 10 = .ok (.aload_n 0, 1) := by decide +kernel
theorem jd_AL_fastRemove_11 : decode jq_AL_fastRemove.2.1 11 = .ok (.getfield 48, 3) := by decide +kernel
theorem jd_AL_fastRemove_14 : decode jq_AL_fastRemove.2.1 14 = .ok (.iconst 1, 1) := by decide +kernel
theorem jd_AL_fastRemove_15 : decode jq_AL_fastRemove.2.1 15 = .ok (.isub, 1) := by decide +kernel
theorem jd_AL_fastRemove_16 : decode jq_AL_fastRemove.2.1 16 = .ok (.dup, 1) := by decide +kernel
theorem jd_AL_fastRemove_17 : decode jq_AL_fastRemove.2.1 17 = .ok (.istore_n 3, 1) := by decide +kernel
theorem jd_AL_fastRemove_18 : decode jq_AL_fastRemove.2.1 18 = .ok (.iload_n 2, 1) := by decide +kernel
theorem jd_AL_fastRemove_19 : decode jq_AL_fastRemove.2.1 19 = .ok (.if_icmp .le 15, 3) := by decide +kernel
theorem jd_AL_fastRemove_22 : decode jq_AL_fastRemove.2.1 22 = .ok (.aload_n 1, 1) := by decide +kernel
theorem jd_AL_fastRemove_23 : decode jq_AL_fastRemove.2.1 23 = .ok (.iload_n 2, 1) := by decide +kernel
theorem jd_AL_fastRemove_24 : decode jq_AL_fastRemove.2.1 24 = .ok (.iconst 1, 1) := by decide +kernel
theorem jd_AL_fastRemove_25 : decode jq_AL_fastRemove.2.1 25 = .ok (.iadd, 1) := by decide +kernel
theorem jd_AL_fastRemove_26 : decode jq_AL_fastRemove.2.1 26 = .ok (.aload_n 1, 1) := by decide +kernel
theorem jd_AL_fastRemove_27 : decode jq_AL_fastRemove.2.1 27 = .ok (.iload_n 2, 1) := by decide +kernel
theorem jd_AL_fastRemove_28 : decode jq_AL_fastRemove.2.1 28 = .ok (.iload_n 3, 1) := by decide +kernel
theorem jd_AL_fastRemove_29 : decode jq_AL_fastRemove.2.1 29 = .ok (.iload_n 2, 1) := by decide +kernel
theorem jd_AL_fastRemove_30 : decode jq_AL_fastRemove.2.1 30 = .ok (.isub, 1) := by decide +kernel
theorem jd_AL_fastRemove_31 : decode jq_AL_fastRemove.2.1 31 = .ok (.invokestatic 112, 3) := by decide +kernel
theorem jd_AL_fastRemove_34 : decode jq_AL_fastRemove.2.1 34 = .ok (.aload_n 1, 1) := by decide +kernel
theorem jd_AL_fastRemove_35 : decode jq_AL_fastRemove.2.1 35 = .ok (.aload_n 0, 1) := by decide +kernel
theorem jd_AL_fastRemove_36 : decode jq_AL_fastRemove.2.1 36 = .ok (.iload_n 3, 1) := by decide +kernel
theorem jd_AL_fastRemove_37 : decode jq_AL_fastRemove.2.1 37 = .ok (.dup_x1, 1) := by decide +kernel
theorem jd_AL_fastRemove_38 : decode jq_AL_fastRemove.2.1 38 = .ok (.putfield 48, 3) := by decide +kernel
theorem jd_AL_fastRemove_41 : decode jq_AL_fastRemove.2.1 41 = .ok (.aconst_null, 1) := by decide +kernel
theorem jd_AL_fastRemove_42 : decode jq_AL_fastRemove.2.1 42 = .ok (.aastore, 1) := by decide +kernel
theorem jd_AL_fastRemove_43 : decode jq_AL_fastRemove.2.1 43 = .ok (.return_, 1) := by decide +kernel
theorem jd_AL_remove_0 : decode jq_AL_remove.2.1 0 = .ok (.iload_n 1, 1) := by decide +kernel
theorem jd_AL_remove_1 : decode jq_AL_remove.2.1 1 = .ok (.aload_n 0, 1) := by decide +kernel
theorem jd_AL_remove_2 : decode jq_AL_remove.2.1 2 = .ok (.getfield 48, 3) := by decide +kernel
theorem jd_AL_remove_5 : decode jq_AL_remove.2.1 5 = .ok (.invokestatic 118, 3) := by decide +kernel
theorem jd_AL_remove_8 : decode jq_AL_remove.2.1 8 = .ok (.pop, 1) := by decide +kernel
theorem jd_AL_remove_9 : decode jq_AL_remove.2.1 9 = .ok (.aload_n 0, 1) := by decide +kernel
theorem jd_AL_remove_10 : decode jq_AL_remove.2.1 10 = .ok (.getfield 9, 3) := by decide +kernel
theorem jd_AL_remove_13 : decode jq_AL_remove.2.1 13 = .ok (.astore_n 2, 1) := by decide +kernel
theorem jd_AL_remove_14 : decode jq_AL_remove.2.1 14 = .ok (.aload_n 2, 1) := by decide +kernel
theorem jd_AL_remove_15 : decode jq_AL_remove.2.1 15 = .ok (.iload_n 1, 1) := by decide +kernel
theorem jd_AL_remove_16 : decode jq_AL_remove.2.1 16 = .ok (.aaload, 1) := by decide +kernel
theorem jd_AL_remove_17 : decode jq_AL_remove.2.1 17 = .ok (.astore_n 3, 1) := by decide +kernel
theorem jd_AL_remove_18 : decode jq_AL_remove.2.1 18 = .ok (.aload_n 0, 1) := by decide +kernel
theorem jd_AL_remove_19 : decode jq_AL_remove.2.1 19 = .ok (.aload_n 2, 1) := by decide +kernel
theorem jd_AL_remove_20 : decode jq_AL_remove.2.1 20 = .ok (.iload_n 1, 1) := by decide +kernel
theorem jd_AL_remove_21 : decode jq_AL_remove.2.1 21 = .ok (.invokevirtual 144, 3) := by decide +kernel
theorem jd_AL_remove_24 : decode jq_AL_remove.2.1 24 = .ok (.aload_n 3, 1) := by decide +kernel
theorem jd_AL_remove_25 : decode jq_AL_remove.2.1 25 = .ok (.areturn, 1) := by decide +kernel
theorem jd_Sh_removeFromOrder_0 : decode jq_Sh_removeFromOrder.2.1 0 = .ok (.iconst 0, 1) := by decide +kernel
theorem jd_Sh_removeFromOrder_1 : decode jq_Sh_removeFromOrder.2.1 1 = .ok (.istore_n 2, 1) := by decide +kernel
theorem jd_Sh_removeFromOrder_2 : decode jq_Sh_removeFromOrder.2.1 2 = .ok (.iload_n 2, 1) := by decide +kernel
theorem jd_Sh_removeFromOrder_3 : decode jq_Sh_removeFromOrder.2.1 3 = .ok (.aload_n 0, 1) := by decide +kernel
theorem jd_Sh_removeFromOrder_4 : decode jq_Sh_removeFromOrder.2.1 4 = .ok (.getfield 18, 3) := by decide +kernel
theorem jd_Sh_removeFromOrder_7 : decode jq_Sh_removeFromOrder.2.1 7 = .ok (.invokevirtual 33, 3) := by decide +kernel
theorem jd_Sh_removeFromOrder_10 : decode jq_Sh_removeFromOrder.2.1 10 = .ok (.if_icmp .ge 31, 3) := by decide +kernel
theorem jd_Sh_removeFromOrder_13 : decode jq_Sh_removeFromOrder.2.1 13 = .ok (.aload_n 0, 1) := by decide +kernel
theorem jd_Sh_removeFromOrder_14 : decode jq_Sh_removeFromOrder.2.1 14 = .ok (.getfield 18, 3) := by decide +kernel
theorem jd_Sh_removeFromOrder_17 : decode jq_Sh_removeFromOrder.2.1 17 = .ok (.iload_n 2, 1) := by decide +kernel
theorem jd_Sh_removeFromOrder_18 : decode jq_Sh_removeFromOrder.2.1 18 = .ok (.invokevirtual 37, 3) := by decide +kernel
theorem jd_Sh_removeFromOrder_21 : decode jq_Sh_removeFromOrder.2.1 21 = .ok (.aload_n 1, 1) := by decide +kernel
theorem jd_Sh_removeFromOrder_22 : decode jq_Sh_removeFromOrder.2.1 22 = .ok (.if_acmp .ne 13, 3) := by decide +kernel
theorem jd_Sh_removeFromOrder_25 : decode jq_Sh_removeFromOrder.2.1 25 = .ok (.aload_n 0, 1) := by decide +kernel
theorem jd_Sh_removeFromOrder_26 : decode jq_Sh_removeFromOrder.2.1 26 = .ok (.getfield 18, 3) := by decide +kernel
theorem jd_Sh_removeFromOrder_29 : decode jq_Sh_removeFromOrder.2.1 29 = .ok (.iload_n 2, 1) := by decide +kernel
theorem jd_Sh_removeFromOrder_30 : decode jq_Sh_removeFromOrder.2.1 30 = .ok (.invokevirtual 136, 3) := by decide +kernel
theorem jd_Sh_removeFromOrder_33 : decode jq_Sh_removeFromOrder.2.1 33 = .ok (.pop, 1) := by decide +kernel
theorem jd_Sh_removeFromOrder_34 : decode jq_Sh_removeFromOrder.2.1 34 = .ok (.return_, 1) := by decide +kernel
theorem jd_Sh_removeFromOrder_35 : decode jq_Sh_removeFromOrder.2.1 35 = .ok (.iinc 2 1, 3) := by decide +kernel
theorem jd_Sh_removeFromOrder_38 : decode jq_Sh_removeFromOrder.2.1 38 = .ok (.goto (-36), 3) := by decide +kernel
theorem jd_Sh_removeFromOrder_41 : decode jq_Sh_removeFromOrder.2.1 41 = .ok (.return_, 1) := by decide +kernel
theorem jd_Bc_contains_0 : decode jq_Bc_contains.2.1 0 = .ok (.iload_n 0, 1) := by decide +kernel
theorem jd_Bc_contains_1 : decode jq_Bc_contains.2.1 1 = .ok (.iconst 1, 1) := by decide +kernel
theorem jd_Bc_contains_2 : decode jq_Bc_contains.2.1 2 = .ok (.iload_n 1, 1) := by decide +kernel
theorem jd_Bc_contains_3 : decode jq_Bc_contains.2.1 3 = .ok (.ishl, 1) := by decide +kernel
theorem jd_Bc_contains_4 : decode jq_Bc_contains.2.1 4 = .ok (.iand, 1) := by decide +kernel
theorem jd_Bc_contains_5 : decode jq_Bc_contains.2.1 5 = .ok (.ifCond .eq 7, 3) := by decide +kernel
theorem jd_Bc_contains_8 : decode jq_Bc_contains.2.1 8 = .ok (.iconst 1, 1) := by decide +kernel
theorem jd_Bc_contains_9 : decode jq_Bc_contains.2.1 9 = .ok (.goto 4, 3) := by decide +kernel
theorem jd_Bc_contains_12 : decode jq_Bc_contains.2.1 12 = .ok (.iconst 0, 1) := by decide +kernel
theorem jd_Bc_contains_13 : decode jq_Bc_contains.2.1 13 = .ok (.ireturn, 1) := by decide +kernel
theorem jd_Wo_destroyBeans_0 : decode jq_Wo_destroyBeans.2.1 0 = .ok (.aload_n 0, 1) := by decide +kernel
theorem jd_Wo_destroyBeans_1 : decode jq_Wo_destroyBeans.2.1 1 = .ok (.getfield 12, 3) := by decide +kernel
theorem jd_Wo_destroyBeans_4 : decode jq_Wo_destroyBeans.2.1 4 = .ok (.invokevirtual 100, 3) := by decide +kernel
theorem jd_Wo_destroyBeans_7 : decode jq_Wo_destroyBeans.2.1 7 = .ok (.iconst 1, 1) := by decide +kernel
theorem jd_Wo_destroyBeans_8 : decode jq_Wo_destroyBeans.2.1 8 = .ok (.isub, 1) := by decide +kernel
theorem jd_Wo_destroyBeans_9 : decode jq_Wo_destroyBeans.2.1 9 = .ok (.istore_n 2, 1) := by decide +kernel
theorem jd_Wo_destroyBeans_10 : decode jq_Wo_destroyBeans.2.1 10 = .ok (.iload_n 2, 1) := by decide +kernel
theorem jd_Wo_destroyBeans_11 : decode jq_Wo_destroyBeans.2.1 11 = .ok (.ifCond .lt 58, 3) := by decide +kernel
theorem jd_Wo_destroyBeans_14 : decode jq_Wo_destroyBeans.2.1 14 = .ok (.aload_n 0, 1) := by decide +kernel
theorem jd_Wo_destroyBeans_15 : decode jq_Wo_destroyBeans.2.1 15 = .ok (.getfield 12, 3) := by decide +kernel
theorem jd_Wo_destroyBeans_18 : decode jq_Wo_destroyBeans.2.1 18 = .ok (.iload_n 2, 1) := by decide +kernel
theorem jd_Wo_destroyBeans_19 : decode jq_Wo_destroyBeans.2.1 19 = .ok (.invokevirtual 103, 3) := by decide +kernel
theorem jd_Wo_destroyBeans_22 : decode jq_Wo_destroyBeans.2.1 22 = .ok (.checkcast 76, 3) := by decide +kernel
theorem jd_Wo_destroyBeans_25 : decode jq_Wo_destroyBeans.2.1 25 = .ok (.astore_n 3, 1) := by decide +kernel
theorem jd_Wo_destroyBeans_26 : decode jq_Wo_destroyBeans.2.1 26 = .ok (.aload_n 3, 1) := by decide +kernel
theorem jd_Wo_destroyBeans_27 : decode jq_Wo_destroyBeans.2.1 27 = .ok (.getfield 118, 3) := by decide +kernel
theorem jd_Wo_destroyBeans_30 : decode jq_Wo_destroyBeans.2.1 30 = .ok (.aload_n 1, 1) := by decide +kernel
theorem jd_Wo_destroyBeans_31 : decode jq_Wo_destroyBeans.2.1 31 = .ok (.if_acmp .ne 32, 3) := by decide +kernel
theorem jd_Wo_destroyBeans_34 : decode jq_Wo_destroyBeans.2.1 34 = .ok (.aload_n 1, 1) := by decide +kernel
theorem jd_Wo_destroyBeans_35 : decode jq_Wo_destroyBeans.2.1 35 = .ok (.getfield 26, 3) := by decide +kernel
theorem jd_Wo_destroyBeans_38 : decode jq_Wo_destroyBeans.2.1 38 = .ok (.getfield 62, 3) := by decide +kernel
theorem jd_Wo_destroyBeans_41 : decode jq_Wo_destroyBeans.2.1 41 = .ok (.aload_n 3, 1) := by decide +kernel
theorem jd_Wo_destroyBeans_42 : decode jq_Wo_destroyBeans.2.1 42 = .ok (.getfield 121, 3) := by decide +kernel
theorem jd_Wo_destroyBeans_45 : decode jq_Wo_destroyBeans.2.1 45 = .ok (.invokestatic 65, 3) := by decide +kernel
theorem jd_Wo_destroyBeans_48 : decode jq_Wo_destroyBeans.2.1 48 = .ok (.ifCond .eq 15, 3) := by decide +kernel
theorem jd_Wo_destroyBeans_51 : decode jq_Wo_destroyBeans.2.1 51 = .ok (.aload_n 0, 1) := by decide +kernel
theorem jd_Wo_destroyBeans_52 : decode jq_Wo_destroyBeans.2.1 52 = .ok (.getfield 22, 3) := by decide +kernel
theorem jd_Wo_destroyBeans_55 : decode jq_Wo_destroyBeans.2.1 55 = .ok (.iconst 4, 1) := by decide +kernel
theorem jd_Wo_destroyBeans_56 : decode jq_Wo_destroyBeans.2.1 56 = .ok (.aload_n 3, 1) := by decide +kernel
theorem jd_Wo_destroyBeans_57 : decode jq_Wo_destroyBeans.2.1 57 = .ok (.getfield 121, 3) := by decide +kernel
theorem jd_Wo_destroyBeans_60 : decode jq_Wo_destroyBeans.2.1 60 = .ok (.invokevirtual 124, 3) := by decide +kernel
theorem jd_Wo_destroyBeans_63 : decode jq_Wo_destroyBeans.2.1 63 = .ok (.iinc 2 (-1), 3) := by decide +kernel
theorem jd_Wo_destroyBeans_66 : decode jq_Wo_destroyBeans.2.1 66 = .ok (.goto (-56), 3) := by decide +kernel
theorem jd_Wo_destroyBeans_69 : decode jq_Wo_destroyBeans.2.1 69 = .ok (.aload_n 1, 1) := by decide +kernel
theorem jd_Wo_destroyBeans_70 : decode jq_Wo_destroyBeans.2.1 70 = .ok (.iconst 1, 1) := by decide +kernel
theorem jd_Wo_destroyBeans_71 : decode jq_Wo_destroyBeans.2.1 71 = .ok (.putfield 130, 3) := by decide +kernel
theorem jd_Wo_destroyBeans_74 : decode jq_Wo_destroyBeans.2.1 74 = .ok (.return_, 1) := by decide +kernel
theorem jd_Sh_close_0 : decode jq_Sh_close.2.1 0 = .ok (.iconst 1, 1) := by decide +kernel
theorem jd_Sh_close_1 : decode jq_Sh_close.2.1 1 = .ok (.istore_n 2, 1) := by decide +kernel
theorem jd_Sh_close_2 : decode jq_Sh_close.2.1 2 = .ok (.aload_n 0, 1) := by decide +kernel
theorem jd_Sh_close_3 : decode jq_Sh_close.2.1 3 = .ok (.getfield 12, 3) := by decide +kernel
theorem jd_Sh_close_6 : decode jq_Sh_close.2.1 6 = .ok (.invokevirtual 33, 3) := by decide +kernel
theorem jd_Sh_close_9 : decode jq_Sh_close.2.1 9 = .ok (.iconst 1, 1) := by decide +kernel
theorem jd_Sh_close_10 : decode jq_Sh_close.2.1 10 = .ok (.isub, 1) := by decide +kernel
theorem jd_Sh_close_11 : decode jq_Sh_close.2.1 11 = .ok (.istore_n 3, 1) := by decide +kernel
theorem jd_Sh_close_12 : decode jq_Sh_close.2.1 12 = .ok (.iload_n 3, 1) := by decide +kernel
theorem jd_Sh_close_13 : decode jq_Sh_close.2.1 13 = .ok (.aload_n 1, 1) := by decide +kernel
theorem jd_Sh_close_14 : decode jq_Sh_close.2.1 14 = .ok (.getfield 51, 3) := by decide +kernel
theorem jd_Sh_close_17 : decode jq_Sh_close.2.1 17 = .ok (.if_icmp .le 48, 3) := by decide +kernel
theorem jd_Sh_close_20 : decode jq_Sh_close.2.1 20 = .ok (.aload_n 0, 1) := by decide +kernel
theorem jd_Sh_close_21 : decode jq_Sh_close.2.1 21 = .ok (.getfield 12, 3) := by decide +kernel
theorem jd_Sh_close_24 : decode jq_Sh_close.2.1 24 = .ok (.iload_n 3, 1) := by decide +kernel
theorem jd_Sh_close_25 : decode jq_Sh_close.2.1 25 = .ok (.invokevirtual 37, 3) := by decide +kernel
theorem jd_Sh_close_28 : decode jq_Sh_close.2.1 28 = .ok (.checkcast 41, 3) := by decide +kernel
theorem jd_Sh_close_31 : decode jq_Sh_close.2.1 31 = .ok (.astore 4, 2) := by decide +kernel
theorem jd_Sh_close_33 : decode jq_Sh_close.2.1 33 = .ok (.aload 4, 2) := by decide +kernel
theorem jd_Sh_close_35 : decode jq_Sh_close.2.1 35 = .ok (.getfield 106, 3) := by decide +kernel
theorem jd_Sh_close_38 : decode jq_Sh_close.2.1 38 = .ok (.ifCond .eq 21, 3) := by decide +kernel
theorem jd_Sh_close_41 : decode jq_Sh_close.2.1 41 = .ok (.aload 4, 2) := by decide +kernel
theorem jd_Sh_close_43 : decode jq_Sh_close.2.1 43 = .ok (.getfield 133, 3) := by decide +kernel
theorem jd_Sh_close_46 : decode jq_Sh_close.2.1 46 = .ok (.aload_n 1, 1) := by decide +kernel
theorem jd_Sh_close_47 : decode jq_Sh_close.2.1 47 = .ok (.if_acmp .ne 12, 3) := by decide +kernel
theorem jd_Sh_close_50 : decode jq_Sh_close.2.1 50 = .ok (.iload_n 2, 1) := by decide +kernel
theorem jd_Sh_close_51 : decode jq_Sh_close.2.1 51 = .ok (.aload_n 0, 1) := by decide +kernel
theorem jd_Sh_close_52 : decode jq_Sh_close.2.1 52 = .ok (.aload 4, 2) := by decide +kernel
theorem jd_Sh_close_54 : decode jq_Sh_close.2.1 54 = .ok (.invokevirtual 123, 3) := by decide +kernel
theorem jd_Sh_close_57 : decode jq_Sh_close.2.1 57 = .ok (.iadd, 1) := by decide +kernel
theorem jd_Sh_close_58 : decode jq_Sh_close.2.1 58 = .ok (.istore_n 2, 1) := by decide +kernel
theorem jd_Sh_close_59 : decode jq_Sh_close.2.1 59 = .ok (.iinc 3 (-1), 3) := by decide +kernel
theorem jd_Sh_close_62 : decode jq_Sh_close.2.1 62 = .ok (.goto (-50), 3) := by decide +kernel
theorem jd_Sh_close_65 : decode jq_Sh_close.2.1 65 = .ok (.aload_n 0, 1) := by decide +kernel
theorem jd_Sh_close_66 : decode jq_Sh_close.2.1 66 = .ok (.getfield 25, 3) := by decide +kernel
theorem jd_Sh_close_69 : decode jq_Sh_close.2.1 69 = .ok (.aload_n 1, 1) := by decide +kernel
theorem jd_Sh_close_70 : decode jq_Sh_close.2.1 70 = .ok (.invokevirtual 116, 3) := by decide +kernel
theorem jd_Sh_close_73 : decode jq_Sh_close.2.1 73 = .ok (.aload_n 1, 1) := by decide +kernel
theorem jd_Sh_close_74 : decode jq_Sh_close.2.1 74 = .ok (.iconst 0, 1) := by decide +kernel
theorem jd_Sh_close_75 : decode jq_Sh_close.2.1 75 = .ok (.putfield 106, 3) := by decide +kernel
theorem jd_Sh_close_78 : decode jq_Sh_close.2.1 78 = .ok (.aload_n 0, 1) := by decide +kernel
theorem jd_Sh_close_79 : decode jq_Sh_close.2.1 79 = .ok (.aload_n 1, 1) := by decide +kernel
theorem jd_Sh_close_80 : decode jq_Sh_close.2.1 80 = .ok (.invokevirtual 127, 3) := by decide +kernel
theorem jd_Sh_close_83 : decode jq_Sh_close.2.1 83 = .ok (.aload_n 0, 1) := by decide +kernel
theorem jd_Sh_close_84 : decode jq_Sh_close.2.1 84 = .ok (.getfield 29, 3) := by decide +kernel
theorem jd_Sh_close_87 : decode jq_Sh_close.2.1 87 = .ok (.iconst 5, 1) := by decide +kernel
theorem jd_Sh_close_88 : decode jq_Sh_close.2.1 88 = .ok (.aload_n 1, 1) := by decide +kernel
theorem jd_Sh_close_89 : decode jq_Sh_close.2.1 89 = .ok (.getfield 51, 3) := by decide +kernel
theorem jd_Sh_close_92 : decode jq_Sh_close.2.1 92 = .ok (.invokevirtual 110, 3) := by decide +kernel
theorem jd_Sh_close_95 : decode jq_Sh_close.2.1 95 = .ok (.iload_n 2, 1) := by decide +kernel
theorem jd_Sh_close_96 : decode jq_Sh_close.2.1 96 = .ok (.ireturn, 1) := by decide +kernel
theorem jd_Bc_dirty_0 : decode jq_Bc_dirty.2.1 0 = .ok (.aload_n 0, 1) := by decide +kernel
theorem jd_Bc_dirty_1 : decode jq_Bc_dirty.2.1 1 = .ok (.iload_n 1, 1) := by decide +kernel
theorem jd_Bc_dirty_2 : decode jq_Bc_dirty.2.1 2 = .ok (.invokevirtual 112, 3) := by decide +kernel
theorem jd_Bc_dirty_5 : decode jq_Bc_dirty.2.1 5 = .ok (.ifCond .ne 5, 3) := by decide +kernel
theorem jd_Bc_dirty_8 : decode jq_Bc_dirty.2.1 8 = .ok (.iconst (-1), 1) := by decide +kernel
theorem jd_Bc_dirty_9 : decode jq_Bc_dirty.2.1 9 = .ok (.ireturn, 1) := by decide +kernel
theorem jd_Bc_dirty_10 : decode jq_Bc_dirty.2.1 10 = .ok (.aload_n 0, 1) := by decide +kernel
theorem jd_Bc_dirty_11 : decode jq_Bc_dirty.2.1 11 = .ok (.iload_n 1, 1) := by decide +kernel
theorem jd_Bc_dirty_12 : decode jq_Bc_dirty.2.1 12 = .ok (.invokevirtual 147, 3) := by decide +kernel
theorem jd_Bc_dirty_15 : decode jq_Bc_dirty.2.1 15 = .ok (.astore_n 2, 1) := by decide +kernel
theorem jd_Bc_dirty_16 : decode jq_Bc_dirty.2.1 16 = .ok (.aload_n 2, 1) := by decide +kernel
theorem jd_Bc_dirty_17 : decode jq_Bc_dirty.2.1 17 = .ok (.ifnonnull 7, 3) := by decide +kernel
theorem jd_Bc_dirty_20 : decode jq_Bc_dirty.2.1 20 = .ok (.iconst 0, 1) := by decide +kernel
theorem jd_Bc_dirty_21 : decode jq_Bc_dirty.2.1 21 = .ok (.goto 11, 3) := by decide +kernel
theorem jd_Bc_dirty_24 : decode jq_Bc_dirty.2.1 24 = .ok (.aload_n 0, 1) := by decide +kernel
theorem jd_Bc_dirty_25 : decode jq_Bc_dirty.2.1 25 = .ok (.getfield 53, 3) := by decide +kernel
theorem jd_Bc_dirty_28 : decode jq_Bc_dirty.2.1 28 = .ok (.aload_n 2, 1) := by decide +kernel
theorem jd_Bc_dirty_29 : decode jq_Bc_dirty.2.1 29 = .ok (.invokevirtual 151, 3) := by decide +kernel
theorem jd_Bc_dirty_32 : decode jq_Bc_dirty.2.1 32 = .ok (.ireturn, 1) := by decide +kernel
theorem jd_Jo_before_0 : decode jq_Jo_before.2.1 0 = .ok (.iload_n 1, 1) := by decide +kernel
theorem jd_Jo_before_1 : decode jq_Jo_before.2.1 1 = .ok (.bipush 32, 2) := by decide +kernel
theorem jd_Jo_before_3 : decode jq_Jo_before.2.1 3 = .ok (.invokestatic 19, 3) := by decide +kernel
theorem jd_Jo_before_6 : decode jq_Jo_before.2.1 6 = .ok (.ifCond .eq 11, 3) := by decide +kernel
theorem jd_Jo_before_9 : decode jq_Jo_before.2.1 9 = .ok (.iload_n 1, 1) := by decide +kernel
theorem jd_Jo_before_10 : decode jq_Jo_before.2.1 10 = .ok (.aload_n 0, 1) := by decide +kernel
theorem jd_Jo_before_11 : decode jq_Jo_before.2.1 11 = .ok (.getfield 15, 3) := by decide +kernel
theorem jd_Jo_before_14 : decode jq_Jo_before.2.1 14 = .ok (.if_icmp .lt 5, 3) := by decide +kernel
theorem jd_Jo_before_17 : decode jq_Jo_before.2.1 17 = .ok (.iconst (-1), 1) := by decide +kernel
theorem jd_Jo_before_18 : decode jq_Jo_before.2.1 18 = .ok (.ireturn, 1) := by decide +kernel
theorem jd_Jo_before_19 : decode jq_Jo_before.2.1 19 = .ok (.aload_n 0, 1) := by decide +kernel
theorem jd_Jo_before_20 : decode jq_Jo_before.2.1 20 = .ok (.getfield 9, 3) := by decide +kernel
theorem jd_Jo_before_23 : decode jq_Jo_before.2.1 23 = .ok (.aload_n 0, 1) := by decide +kernel
theorem jd_Jo_before_24 : decode jq_Jo_before.2.1 24 = .ok (.getfield 15, 3) := by decide +kernel
theorem jd_Jo_before_27 : decode jq_Jo_before.2.1 27 = .ok (.iconst 1, 1) := by decide +kernel
theorem jd_Jo_before_28 : decode jq_Jo_before.2.1 28 = .ok (.isub, 1) := by decide +kernel
theorem jd_Jo_before_29 : decode jq_Jo_before.2.1 29 = .ok (.iload_n 1, 1) := by decide +kernel
theorem jd_Jo_before_30 : decode jq_Jo_before.2.1 30 = .ok (.isub, 1) := by decide +kernel
theorem jd_Jo_before_31 : decode jq_Jo_before.2.1 31 = .ok (.bipush 32, 2) := by decide +kernel
theorem jd_Jo_before_33 : decode jq_Jo_before.2.1 33 = .ok (.irem, 1) := by decide +kernel
theorem jd_Jo_before_34 : decode jq_Jo_before.2.1 34 = .ok (.iaload, 1) := by decide +kernel
theorem jd_Jo_before_35 : decode jq_Jo_before.2.1 35 = .ok (.ireturn, 1) := by decide +kernel
theorem jd_Bc_event_0 : decode jq_Bc_event.2.1 0 = .ok (.aload_n 0, 1) := by decide +kernel
theorem jd_Bc_event_1 : decode jq_Bc_event.2.1 1 = .ok (.getfield 26, 3) := by decide +kernel
theorem jd_Bc_event_4 : decode jq_Bc_event.2.1 4 = .ok (.iload_n 1, 1) := by decide +kernel
theorem jd_Bc_event_5 : decode jq_Bc_event.2.1 5 = .ok (.invokevirtual 203, 3) := by decide +kernel
theorem jd_Bc_event_8 : decode jq_Bc_event.2.1 8 = .ok (.ireturn, 1) := by decide +kernel
theorem jd_Jo_size_0 : decode jq_Jo_size.2.1 0 = .ok (.aload_n 0, 1) := by decide +kernel
theorem jd_Jo_size_1 : decode jq_Jo_size.2.1 1 = .ok (.getfield 15, 3) := by decide +kernel
theorem jd_Jo_size_4 : decode jq_Jo_size.2.1 4 = .ok (.ireturn, 1) := by decide +kernel
theorem jd_Bc_events_0 : decode jq_Bc_events.2.1 0 = .ok (.aload_n 0, 1) := by decide +kernel
theorem jd_Bc_events_1 : decode jq_Bc_events.2.1 1 = .ok (.getfield 26, 3) := by decide +kernel
theorem jd_Bc_events_4 : decode jq_Bc_events.2.1 4 = .ok (.invokevirtual 202, 3) := by decide +kernel
theorem jd_Bc_events_7 : decode jq_Bc_events.2.1 7 = .ok (.ireturn, 1) := by decide +kernel
theorem jd_Ca_isKind_0 : decode jq_Ca_isKind.2.1 0 = .ok (.aload_n 0, 1) := by decide +kernel
theorem jd_Ca_isKind_1 : decode jq_Ca_isKind.2.1 1 = .ok (.getfield 9, 3) := by decide +kernel
theorem jd_Ca_isKind_4 : decode jq_Ca_isKind.2.1 4 = .ok (.iload_n 1, 1) := by decide +kernel
theorem jd_Ca_isKind_5 : decode jq_Ca_isKind.2.1 5 = .ok (.iaload, 1) := by decide +kernel
theorem jd_Ca_isKind_6 : decode jq_Ca_isKind.2.1 6 = .ok (.iload_n 2, 1) := by decide +kernel
theorem jd_Ca_isKind_7 : decode jq_Ca_isKind.2.1 7 = .ok (.invokestatic 22, 3) := by decide +kernel
theorem jd_Ca_isKind_10 : decode jq_Ca_isKind.2.1 10 = .ok (.ireturn, 1) := by decide +kernel
theorem jd_Ca_addKind_0 : decode jq_Ca_addKind.2.1 0 = .ok (.iconst 0, 1) := by decide +kernel
theorem jd_Ca_addKind_1 : decode jq_Ca_addKind.2.1 1 = .ok (.istore_n 3, 1) := by decide +kernel
theorem jd_Ca_addKind_2 : decode jq_Ca_addKind.2.1 2 = .ok (.iload_n 3, 1) := by decide +kernel
theorem jd_Ca_addKind_3 : decode jq_Ca_addKind.2.1 3 = .ok (.bipush 6, 2) := by decide +kernel
theorem jd_Ca_addKind_5 : decode jq_Ca_addKind.2.1 5 = .ok (.if_icmp .ge 33, 3) := by decide +kernel
theorem jd_Ca_addKind_8 : decode jq_Ca_addKind.2.1 8 = .ok (.aload_n 0, 1) := by decide +kernel
theorem jd_Ca_addKind_9 : decode jq_Ca_addKind.2.1 9 = .ok (.iload_n 3, 1) := by decide +kernel
theorem jd_Ca_addKind_10 : decode jq_Ca_addKind.2.1 10 = .ok (.iload_n 1, 1) := by decide +kernel
theorem jd_Ca_addKind_11 : decode jq_Ca_addKind.2.1 11 = .ok (.invokevirtual 26, 3) := by decide +kernel
theorem jd_Ca_addKind_14 : decode jq_Ca_addKind.2.1 14 = .ok (.ifCond .eq 18, 3) := by decide +kernel
theorem jd_Ca_addKind_17 : decode jq_Ca_addKind.2.1 17 = .ok (.aload_n 0, 1) := by decide +kernel
theorem jd_Ca_addKind_18 : decode jq_Ca_addKind.2.1 18 = .ok (.getfield 9, 3) := by decide +kernel
theorem jd_Ca_addKind_21 : decode jq_Ca_addKind.2.1 21 = .ok (.iload_n 3, 1) := by decide +kernel
theorem jd_Ca_addKind_22 : decode jq_Ca_addKind.2.1 22 = .ok (.dup2, 1) := by decide +kernel
theorem jd_Ca_addKind_23 : decode jq_Ca_addKind.2.1 23 = .ok (.iaload, 1) := by decide +kernel
theorem jd_Ca_addKind_24 : decode jq_Ca_addKind.2.1 24 = .ok (.aload_n 0, 1) := by decide +kernel
theorem jd_Ca_addKind_25 : decode jq_Ca_addKind.2.1 25 = .ok (.getfield 9, 3) := by decide +kernel
theorem jd_Ca_addKind_28 : decode jq_Ca_addKind.2.1 28 = .ok (.iload_n 2, 1) := by decide +kernel
theorem jd_Ca_addKind_29 : decode jq_Ca_addKind.2.1 29 = .ok (.iaload, 1) := by decide +kernel
theorem jd_Ca_addKind_30 : decode jq_Ca_addKind.2.1 30 = .ok (.ior, 1) := by decide +kernel
theorem jd_Ca_addKind_31 : decode jq_Ca_addKind.2.1 31 = .ok (.iastore, 1) := by decide +kernel
theorem jd_Ca_addKind_32 : decode jq_Ca_addKind.2.1 32 = .ok (.iinc 3 1, 3) := by decide +kernel
theorem jd_Ca_addKind_35 : decode jq_Ca_addKind.2.1 35 = .ok (.goto (-33), 3) := by decide +kernel
theorem jd_Ca_addKind_38 : decode jq_Ca_addKind.2.1 38 = .ok (.return_, 1) := by decide +kernel
theorem jd_Bc_extend_0 : decode jq_Bc_extend.2.1 0 = .ok (.aload_n 0, 1) := by decide +kernel
theorem jd_Bc_extend_1 : decode jq_Bc_extend.2.1 1 = .ok (.getfield 19, 3) := by decide +kernel
theorem jd_Bc_extend_4 : decode jq_Bc_extend.2.1 4 = .ok (.invokevirtual 57, 3) := by decide +kernel
theorem jd_Bc_extend_7 : decode jq_Bc_extend.2.1 7 = .ok (.ifCond .eq 17, 3) := by decide +kernel
theorem jd_Bc_extend_10 : decode jq_Bc_extend.2.1 10 = .ok (.iload_n 1, 1) := by decide +kernel
theorem jd_Bc_extend_11 : decode jq_Bc_extend.2.1 11 = .ok (.invokestatic 61, 3) := by decide +kernel
theorem jd_Bc_extend_14 : decode jq_Bc_extend.2.1 14 = .ok (.ifCond .eq 10, 3) := by decide +kernel
theorem jd_Bc_extend_17 : decode jq_Bc_extend.2.1 17 = .ok (.iload_n 2, 1) := by decide +kernel
theorem jd_Bc_extend_18 : decode jq_Bc_extend.2.1 18 = .ok (.invokestatic 61, 3) := by decide +kernel
theorem jd_Bc_extend_21 : decode jq_Bc_extend.2.1 21 = .ok (.ifCond .ne 5, 3) := by decide +kernel
theorem jd_Bc_extend_24 : decode jq_Bc_extend.2.1 24 = .ok (.iconst 0, 1) := by decide +kernel
theorem jd_Bc_extend_25 : decode jq_Bc_extend.2.1 25 = .ok (.ireturn, 1) := by decide +kernel
theorem jd_Bc_extend_26 : decode jq_Bc_extend.2.1 26 = .ok (.aload_n 0, 1) := by decide +kernel
theorem jd_Bc_extend_27 : decode jq_Bc_extend.2.1 27 = .ok (.getfield 10, 3) := by decide +kernel
theorem jd_Bc_extend_30 : decode jq_Bc_extend.2.1 30 = .ok (.iload_n 2, 1) := by decide +kernel
theorem jd_Bc_extend_31 : decode jq_Bc_extend.2.1 31 = .ok (.iload_n 1, 1) := by decide +kernel
theorem jd_Bc_extend_32 : decode jq_Bc_extend.2.1 32 = .ok (.invokevirtual 65, 3) := by decide +kernel
theorem jd_Bc_extend_35 : decode jq_Bc_extend.2.1 35 = .ok (.ifCond .ne 15, 3) := by decide +kernel
theorem jd_Bc_extend_38 : decode jq_Bc_extend.2.1 38 = .ok (.aload_n 0, 1) := by decide +kernel
theorem jd_Bc_extend_39 : decode jq_Bc_extend.2.1 39 = .ok (.getfield 10, 3) := by decide +kernel
theorem jd_Bc_extend_42 : decode jq_Bc_extend.2.1 42 = .ok (.iload_n 1, 1) := by decide +kernel
theorem jd_Bc_extend_43 : decode jq_Bc_extend.2.1 43 = .ok (.iload_n 2, 1) := by decide +kernel
theorem jd_Bc_extend_44 : decode jq_Bc_extend.2.1 44 = .ok (.invokevirtual 65, 3) := by decide +kernel
theorem jd_Bc_extend_47 : decode jq_Bc_extend.2.1 47 = .ok (.ifCond .eq 5, 3) := by decide +kernel
theorem jd_Bc_extend_50 : decode jq_Bc_extend.2.1 50 = .ok (.iconst 0, 1) := by decide +kernel
theorem jd_Bc_extend_51 : decode jq_Bc_extend.2.1 51 = .ok (.ireturn, 1) := by decide +kernel
theorem jd_Bc_extend_52 : decode jq_Bc_extend.2.1 52 = .ok (.aload_n 0, 1) := by decide +kernel
theorem jd_Bc_extend_53 : decode jq_Bc_extend.2.1 53 = .ok (.getfield 10, 3) := by decide +kernel
theorem jd_Bc_extend_56 : decode jq_Bc_extend.2.1 56 = .ok (.iload_n 1, 1) := by decide +kernel
theorem jd_Bc_extend_57 : decode jq_Bc_extend.2.1 57 = .ok (.iload_n 2, 1) := by decide +kernel
theorem jd_Bc_extend_58 : decode jq_Bc_extend.2.1 58 = .ok (.invokevirtual 69, 3) := by decide +kernel
theorem jd_Bc_extend_61 : decode jq_Bc_extend.2.1 61 = .ok (.iconst 1, 1) := by decide +kernel
theorem jd_Bc_extend_62 : decode jq_Bc_extend.2.1 62 = .ok (.ireturn, 1) := by decide +kernel
theorem jd_Bc_failures_0 : decode jq_Bc_failures.2.1 0 = .ok (.aload_n 0, 1) := by decide +kernel
theorem jd_Bc_failures_1 : decode jq_Bc_failures.2.1 1 = .ok (.iload_n 1, 1) := by decide +kernel
theorem jd_Bc_failures_2 : decode jq_Bc_failures.2.1 2 = .ok (.invokevirtual 112, 3) := by decide +kernel
theorem jd_Bc_failures_5 : decode jq_Bc_failures.2.1 5 = .ok (.ifCond .eq 20, 3) := by decide +kernel
theorem jd_Bc_failures_8 : decode jq_Bc_failures.2.1 8 = .ok (.aload_n 0, 1) := by decide +kernel
theorem jd_Bc_failures_9 : decode jq_Bc_failures.2.1 9 = .ok (.getfield 19, 3) := by decide +kernel
theorem jd_Bc_failures_12 : decode jq_Bc_failures.2.1 12 = .ok (.iload_n 1, 1) := by decide +kernel
theorem jd_Bc_failures_13 : decode jq_Bc_failures.2.1 13 = .ok (.invokevirtual 115, 3) := by decide +kernel
theorem jd_Bc_failures_16 : decode jq_Bc_failures.2.1 16 = .ok (.checkcast 119, 3) := by decide +kernel
theorem jd_Bc_failures_19 : decode jq_Bc_failures.2.1 19 = .ok (.getfield 199, 3) := by decide +kernel
theorem jd_Bc_failures_22 : decode jq_Bc_failures.2.1 22 = .ok (.goto 4, 3) := by decide +kernel
theorem jd_Bc_failures_25 : decode jq_Bc_failures.2.1 25 = .ok (.iconst (-1), 1) := by decide +kernel
theorem jd_Bc_failures_26 : decode jq_Bc_failures.2.1 26 = .ok (.ireturn, 1) := by decide +kernel
theorem jd_Bc_isName_0 : decode jq_Bc_isName.2.1 0 = .ok (.iload_n 0, 1) := by decide +kernel
theorem jd_Bc_isName_1 : decode jq_Bc_isName.2.1 1 = .ok (.iconst (-1), 1) := by decide +kernel
theorem jd_Bc_isName_2 : decode jq_Bc_isName.2.1 2 = .ok (.if_icmp .eq 12, 3) := by decide +kernel
theorem jd_Bc_isName_5 : decode jq_Bc_isName.2.1 5 = .ok (.iload_n 0, 1) := by decide +kernel
theorem jd_Bc_isName_6 : decode jq_Bc_isName.2.1 6 = .ok (.bipush 10, 2) := by decide +kernel
theorem jd_Bc_isName_8 : decode jq_Bc_isName.2.1 8 = .ok (.invokestatic 77, 3) := by decide +kernel
theorem jd_Bc_isName_11 : decode jq_Bc_isName.2.1 11 = .ok (.ifCond .eq 7, 3) := by decide +kernel
theorem jd_Bc_isName_14 : decode jq_Bc_isName.2.1 14 = .ok (.iconst 1, 1) := by decide +kernel
theorem jd_Bc_isName_15 : decode jq_Bc_isName.2.1 15 = .ok (.goto 4, 3) := by decide +kernel
theorem jd_Bc_isName_18 : decode jq_Bc_isName.2.1 18 = .ok (.iconst 0, 1) := by decide +kernel
theorem jd_Bc_isName_19 : decode jq_Bc_isName.2.1 19 = .ok (.ireturn, 1) := by decide +kernel
theorem jd_Rec_init_0 : decode jq_Rec_init.2.1 0 = .ok (.aload_n 0, 1) := by decide +kernel
theorem jd_Rec_init_1 : decode jq_Rec_init.2.1 1 = .ok (.invokespecial 1, 3) := by decide +kernel
theorem jd_Rec_init_4 : decode jq_Rec_init.2.1 4 = .ok (.return_, 1) := by decide +kernel
theorem jd_Ne_init_0 : decode jq_Ne_init.2.1 0 = .ok (.aload_n 0, 1) := by decide +kernel
theorem jd_Ne_init_1 : decode jq_Ne_init.2.1 1 = .ok (.invokespecial 1, 3) := by decide +kernel
theorem jd_Ne_init_4 : decode jq_Ne_init.2.1 4 = .ok (.aload_n 0, 1) := by decide +kernel
theorem jd_Ne_init_5 : decode jq_Ne_init.2.1 5 = .ok (.iload_n 1, 1) := by decide +kernel
theorem jd_Ne_init_6 : decode jq_Ne_init.2.1 6 = .ok (.putfield 7, 3) := by decide +kernel
theorem jd_Ne_init_9 : decode jq_Ne_init.2.1 9 = .ok (.aload_n 0, 1) := by decide +kernel
theorem jd_Ne_init_10 : decode jq_Ne_init.2.1 10 = .ok (.iload_n 2, 1) := by decide +kernel
theorem jd_Ne_init_11 : decode jq_Ne_init.2.1 11 = .ok (.putfield 13, 3) := by decide +kernel
theorem jd_Ne_init_14 : decode jq_Ne_init.2.1 14 = .ok (.aload_n 0, 1) := by decide +kernel
theorem jd_Ne_init_15 : decode jq_Ne_init.2.1 15 = .ok (.iload_n 3, 1) := by decide +kernel
theorem jd_Ne_init_16 : decode jq_Ne_init.2.1 16 = .ok (.putfield 16, 3) := by decide +kernel
theorem jd_Ne_init_19 : decode jq_Ne_init.2.1 19 = .ok (.return_, 1) := by decide +kernel
theorem jd_Ne_qualifier_0 : decode jq_Ne_qualifier.2.1 0 = .ok (.aload_n 0, 1) := by decide +kernel
theorem jd_Ne_qualifier_1 : decode jq_Ne_qualifier.2.1 1 = .ok (.getfield 13, 3) := by decide +kernel
theorem jd_Ne_qualifier_4 : decode jq_Ne_qualifier.2.1 4 = .ok (.ireturn, 1) := by decide +kernel
theorem jd_Ne_type_0 : decode jq_Ne_type.2.1 0 = .ok (.aload_n 0, 1) := by decide +kernel
theorem jd_Ne_type_1 : decode jq_Ne_type.2.1 1 = .ok (.getfield 7, 3) := by decide +kernel
theorem jd_Ne_type_4 : decode jq_Ne_type.2.1 4 = .ok (.ireturn, 1) := by decide +kernel
theorem jd_Ca_candidates_0 : decode jq_Ca_candidates.2.1 0 = .ok (.iconst 0, 1) := by decide +kernel
theorem jd_Ca_candidates_1 : decode jq_Ca_candidates.2.1 1 = .ok (.istore_n 3, 1) := by decide +kernel
theorem jd_Ca_candidates_2 : decode jq_Ca_candidates.2.1 2 = .ok (.iconst 0, 1) := by decide +kernel
theorem jd_Ca_candidates_3 : decode jq_Ca_candidates.2.1 3 = .ok (.istore 4, 2) := by decide +kernel
theorem jd_Ca_candidates_5 : decode jq_Ca_candidates.2.1 5 = .ok (.iload 4, 2) := by decide +kernel
theorem jd_Ca_candidates_7 : decode jq_Ca_candidates.2.1 7 = .ok (.aload_n 0, 1) := by decide +kernel
theorem jd_Ca_candidates_8 : decode jq_Ca_candidates.2.1 8 = .ok (.getfield 18, 3) := by decide +kernel
theorem jd_Ca_candidates_11 : decode jq_Ca_candidates.2.1 11 = .ok (.invokevirtual 29, 3) := by decide +kernel
theorem jd_Ca_candidates_14 : decode jq_Ca_candidates.2.1 14 = .ok (.if_icmp .ge 94, 3) := by decide +kernel
theorem jd_Ca_candidates_17 : decode jq_Ca_candidates.2.1 17 = .ok (.aload_n 0, 1) := by decide +kernel
theorem jd_Ca_candidates_18 : decode jq_Ca_candidates.2.1 18 = .ok (.getfield 18, 3) := by decide +kernel
theorem jd_Ca_candidates_21 : decode jq_Ca_candidates.2.1 21 = .ok (.iload 4, 2) := by decide +kernel
theorem jd_Ca_candidates_23 : decode jq_Ca_candidates.2.1 23 = .ok (.invokevirtual 33, 3) := by decide +kernel
theorem jd_Ca_candidates_26 : decode jq_Ca_candidates.2.1 26 = .ok (.checkcast 37, 3) := by decide +kernel
theorem jd_Ca_candidates_29 : decode jq_Ca_candidates.2.1 29 = .ok (.astore 5, 2) := by decide +kernel
theorem jd_Ca_candidates_31 : decode jq_Ca_candidates.2.1 31 = .ok (.aload_n 0, 1) := by decide +kernel
theorem jd_Ca_candidates_32 : decode jq_Ca_candidates.2.1 32 = .ok (.getfield 9, 3) := by decide +kernel
theorem jd_Ca_candidates_35 : decode jq_Ca_candidates.2.1 35 = .ok (.aload 5, 2) := by decide +kernel
theorem jd_Ca_candidates_37 : decode jq_Ca_candidates.2.1 37 = .ok (.getfield 50, 3) := by decide +kernel
theorem jd_Ca_candidates_40 : decode jq_Ca_candidates.2.1 40 = .ok (.iaload, 1) := by decide +kernel
theorem jd_Ca_candidates_41 : decode jq_Ca_candidates.2.1 41 = .ok (.aload_n 2, 1) := by decide +kernel
theorem jd_Ca_candidates_42 : decode jq_Ca_candidates.2.1 42 = .ok (.invokevirtual 53, 3) := by decide +kernel
theorem jd_Ca_candidates_45 : decode jq_Ca_candidates.2.1 45 = .ok (.invokestatic 22, 3) := by decide +kernel
theorem jd_Ca_candidates_48 : decode jq_Ca_candidates.2.1 48 = .ok (.istore 6, 2) := by decide +kernel
theorem jd_Ca_candidates_50 : decode jq_Ca_candidates.2.1 50 = .ok (.aload_n 2, 1) := by decide +kernel
theorem jd_Ca_candidates_51 : decode jq_Ca_candidates.2.1 51 = .ok (.invokevirtual 57, 3) := by decide +kernel
theorem jd_Ca_candidates_54 : decode jq_Ca_candidates.2.1 54 = .ok (.ifCond .eq 15, 3) := by decide +kernel
theorem jd_Ca_candidates_57 : decode jq_Ca_candidates.2.1 57 = .ok (.aload_n 2, 1) := by decide +kernel
theorem jd_Ca_candidates_58 : decode jq_Ca_candidates.2.1 58 = .ok (.invokevirtual 57, 3) := by decide +kernel
theorem jd_Ca_candidates_61 : decode jq_Ca_candidates.2.1 61 = .ok (.aload 5, 2) := by decide +kernel
theorem jd_Ca_candidates_63 : decode jq_Ca_candidates.2.1 63 = .ok (.getfield 60, 3) := by decide +kernel
theorem jd_Ca_candidates_66 : decode jq_Ca_candidates.2.1 66 = .ok (.if_icmp .ne 7, 3) := by decide +kernel
theorem jd_Ca_candidates_69 : decode jq_Ca_candidates.2.1 69 = .ok (.iconst 1, 1) := by decide +kernel
theorem jd_Ca_candidates_70 : decode jq_Ca_candidates.2.1 70 = .ok (.goto 4, 3) := by decide +kernel
theorem jd_Ca_candidates_73 : decode jq_Ca_candidates.2.1 73 = .ok (.iconst 0, 1) := by decide +kernel
theorem jd_Ca_candidates_74 : decode jq_Ca_candidates.2.1 74 = .ok (.istore 7, 2) := by decide +kernel
theorem jd_Ca_candidates_76 : decode jq_Ca_candidates.2.1 76 = .ok (.iload_n 1, 1) := by decide +kernel
theorem jd_Ca_candidates_77 : decode jq_Ca_candidates.2.1 77 = .ok (.iload 4, 2) := by decide +kernel
theorem jd_Ca_candidates_79 : decode jq_Ca_candidates.2.1 79 = .ok (.invokestatic 22, 3) := by decide +kernel
theorem jd_Ca_candidates_82 : decode jq_Ca_candidates.2.1 82 = .ok (.ifCond .eq 20, 3) := by decide +kernel
theorem jd_Ca_candidates_85 : decode jq_Ca_candidates.2.1 85 = .ok (.iload 6, 2) := by decide +kernel
theorem jd_Ca_candidates_87 : decode jq_Ca_candidates.2.1 87 = .ok (.ifCond .eq 15, 3) := by decide +kernel
theorem jd_Ca_candidates_90 : decode jq_Ca_candidates.2.1 90 = .ok (.iload 7, 2) := by decide +kernel
theorem jd_Ca_candidates_92 : decode jq_Ca_candidates.2.1 92 = .ok (.ifCond .eq 10, 3) := by decide +kernel
theorem jd_Ca_candidates_95 : decode jq_Ca_candidates.2.1 95 = .ok (.iload_n 3, 1) := by decide +kernel
theorem jd_Ca_candidates_96 : decode jq_Ca_candidates.2.1 96 = .ok (.iconst 1, 1) := by decide +kernel
theorem jd_Ca_candidates_97 : decode jq_Ca_candidates.2.1 97 = .ok (.iload 4, 2) := by decide +kernel
theorem jd_Ca_candidates_99 : decode jq_Ca_candidates.2.1 99 = .ok (.ishl, 1) := by decide +kernel
theorem jd_Ca_candidates_100 : decode jq_Ca_candidates.2.1 100 = .ok (.ior, 1) := by decide +kernel
theorem jd_Ca_candidates_101 : decode jq_Ca_candidates.2.1 101 = .ok (.istore_n 3, 1) := by decide +kernel
theorem jd_Ca_candidates_102 : decode jq_Ca_candidates.2.1 102 = .ok (.iinc 4 1, 3) := by decide +kernel
theorem jd_Ca_candidates_105 : decode jq_Ca_candidates.2.1 105 = .ok (.goto (-100), 3) := by decide +kernel
theorem jd_Ca_candidates_108 : decode jq_Ca_candidates.2.1 108 = .ok (.iload_n 3, 1) := by decide +kernel
theorem jd_Ca_candidates_109 : decode jq_Ca_candidates.2.1 109 = .ok (.ireturn, 1) := by decide +kernel
theorem jd_Int_bitCount_0 : decode jq_Int_bitCount.2.1 0 = .ok (.iload_n 0, 1) := by decide +kernel
theorem jd_Int_bitCount_1 : decode jq_Int_bitCount.2.1 1 = .ok (.iload_n 0, 1) := by decide +kernel
theorem jd_Int_bitCount_2 : decode jq_Int_bitCount.2.1 2 = .ok (.iconst 1, 1) := by decide +kernel
theorem jd_Int_bitCount_3 : decode jq_Int_bitCount.2.1 3 = .ok (.iushr, 1) := by decide +kernel
theorem jd_Int_bitCount_4 : decode jq_Int_bitCount.2.1 4 = .ok (.ldc_w 265, 3) := by decide +kernel
theorem jd_Int_bitCount_7 : decode jq_Int_bitCount.2.1 7 = .ok (.iand, 1) := by decide +kernel
theorem jd_Int_bitCount_8 : decode jq_Int_bitCount.2.1 8 = .ok (.isub, 1) := by decide +kernel
theorem jd_Int_bitCount_9 : decode jq_Int_bitCount.2.1 9 = .ok (.istore_n 0, 1) := by decide +kernel
theorem jd_Int_bitCount_10 : decode jq_Int_bitCount.2.1 10 = .ok (.iload_n 0, 1) := by decide +kernel
theorem jd_Int_bitCount_11 : decode jq_Int_bitCount.2.1 11 = .ok (.ldc_w 266, 3) := by decide +kernel
theorem jd_Int_bitCount_14 : decode jq_Int_bitCount.2.1 14 = .ok (.iand, 1) := by decide +kernel
theorem jd_Int_bitCount_15 : decode jq_Int_bitCount.2.1 15 = .ok (.iload_n 0, 1) := by decide +kernel
theorem jd_Int_bitCount_16 : decode jq_Int_bitCount.2.1 16 = .ok (.iconst 2, 1) := by decide +kernel
theorem jd_Int_bitCount_17 : decode jq_Int_bitCount.2.1 17 = .ok (.iushr, 1) := by decide +kernel
theorem jd_Int_bitCount_18 : decode jq_Int_bitCount.2.1 18 = .ok (.ldc_w 266, 3) := by decide +kernel
theorem jd_Int_bitCount_21 : decode jq_Int_bitCount.2.1 21 = .ok (.iand, 1) := by decide +kernel
theorem jd_Int_bitCount_22 : decode jq_Int_bitCount.2.1 22 = .ok (.iadd, 1) := by decide +kernel
theorem jd_Int_bitCount_23 : decode jq_Int_bitCount.2.1 23 = .ok (.istore_n 0, 1) := by decide +kernel
theorem jd_Int_bitCount_24 : decode jq_Int_bitCount.2.1 24 = .ok (.iload_n 0, 1) := by decide +kernel
theorem jd_Int_bitCount_25 : decode jq_Int_bitCount.2.1 25 = .ok (.iload_n 0, 1) := by decide +kernel
theorem jd_Int_bitCount_26 : decode jq_Int_bitCount.2.1 26 = .ok (.iconst 4, 1) := by decide +kernel
theorem jd_Int_bitCount_27 : decode jq_Int_bitCount.2.1 27 = .ok (.iushr, 1) := by decide +kernel
theorem jd_Int_bitCount_28 : decode jq_Int_bitCount.2.1 28 = .ok (.iadd, 1) := by decide +kernel
theorem jd_Int_bitCount_29 : decode jq_Int_bitCount.2.1 29 = .ok (.ldc_w 267, 3) := by decide +kernel
theorem jd_Int_bitCount_32 : decode jq_Int_bitCount.2.1 32 = .ok (.iand, 1) := by decide +kernel
theorem jd_Int_bitCount_33 : decode jq_Int_bitCount.2.1 33 = .ok (.istore_n 0, 1) := by decide +kernel
theorem jd_Int_bitCount_34 : decode jq_Int_bitCount.2.1 34 = .ok (.iload_n 0, 1) := by decide +kernel
theorem jd_Int_bitCount_35 : decode jq_Int_bitCount.2.1 35 = .ok (.iload_n 0, 1) := by decide +kernel
theorem jd_Int_bitCount_36 : decode jq_Int_bitCount.2.1 36 = .ok (.bipush 8, 2) := by decide +kernel
theorem jd_Int_bitCount_38 : decode jq_Int_bitCount.2.1 38 = .ok (.iushr, 1) := by decide +kernel
theorem jd_Int_bitCount_39 : decode jq_Int_bitCount.2.1 39 = .ok (.iadd, 1) := by decide +kernel
theorem jd_Int_bitCount_40 : decode jq_Int_bitCount.2.1 40 = .ok (.istore_n 0, 1) := by decide +kernel
theorem jd_Int_bitCount_41 : decode jq_Int_bitCount.2.1 41 = .ok (.iload_n 0, 1) := by decide +kernel
theorem jd_Int_bitCount_42 : decode jq_Int_bitCount.2.1 42 = .ok (.iload_n 0, 1) := by decide +kernel
theorem jd_Int_bitCount_43 : decode jq_Int_bitCount.2.1 43 = .ok (.bipush 16, 2) := by decide +kernel
theorem jd_Int_bitCount_45 : decode jq_Int_bitCount.2.1 45 = .ok (.iushr, 1) := by decide +kernel
theorem jd_Int_bitCount_46 : decode jq_Int_bitCount.2.1 46 = .ok (.iadd, 1) := by decide +kernel
theorem jd_Int_bitCount_47 : decode jq_Int_bitCount.2.1 47 = .ok (.istore_n 0, 1) := by decide +kernel
theorem jd_Int_bitCount_48 : decode jq_Int_bitCount.2.1 48 = .ok (.iload_n 0, 1) := by decide +kernel
theorem jd_Int_bitCount_49 : decode jq_Int_bitCount.2.1 49 = .ok (.bipush 63, 2) := by decide +kernel
theorem jd_Int_bitCount_51 : decode jq_Int_bitCount.2.1 51 = .ok (.iand, 1) := by decide +kernel
theorem jd_Int_bitCount_52 : decode jq_Int_bitCount.2.1 52 = .ok (.ireturn, 1) := by decide +kernel
theorem jd_Int_numberOfTrailingZeros_0 : decode jq_Int_numberOfTrailingZeros.2.1 0 = .ok (.iload_n 0, 1) := by decide +kernel
theorem jd_Int_numberOfTrailingZeros_1 : decode jq_Int_numberOfTrailingZeros.2.1 1 = .ok (.iconst (-1), 1) := by decide +kernel
theorem jd_Int_numberOfTrailingZeros_2 : decode jq_Int_numberOfTrailingZeros.2.1 2 = .ok (.ixor, 1) := by decide +kernel
theorem jd_Int_numberOfTrailingZeros_3 : decode jq_Int_numberOfTrailingZeros.2.1 3 = .ok (.iload_n 0, 1) := by decide +kernel
theorem jd_Int_numberOfTrailingZeros_4 : decode jq_Int_numberOfTrailingZeros.2.1 4 = .ok (.iconst 1, 1) := by decide +kernel
theorem jd_Int_numberOfTrailingZeros_5 : decode jq_Int_numberOfTrailingZeros.2.1 5 = .ok (.isub, 1) := by decide +kernel
theorem jd_Int_numberOfTrailingZeros_6 : decode jq_Int_numberOfTrailingZeros.2.1 6 = .ok (.iand, 1) := by decide +kernel
theorem jd_Int_numberOfTrailingZeros_7 : decode jq_Int_numberOfTrailingZeros.2.1 7 = .ok (.istore_n 0, 1) := by decide +kernel
theorem jd_Int_numberOfTrailingZeros_8 : decode jq_Int_numberOfTrailingZeros.2.1 8 = .ok (.iload_n 0, 1) := by decide +kernel
theorem jd_Int_numberOfTrailingZeros_9 : decode jq_Int_numberOfTrailingZeros.2.1 9 = .ok (.ifCond .gt 8, 3) := by decide +kernel
theorem jd_Int_numberOfTrailingZeros_12 : decode jq_Int_numberOfTrailingZeros.2.1 12 = .ok (.iload_n 0, 1) := by decide +kernel
theorem jd_Int_numberOfTrailingZeros_13 : decode jq_Int_numberOfTrailingZeros.2.1 13 = .ok (.bipush 32, 2) := by decide +kernel
theorem jd_Int_numberOfTrailingZeros_15 : decode jq_Int_numberOfTrailingZeros.2.1 15 = .ok (.iand, 1) := by decide +kernel
theorem jd_Int_numberOfTrailingZeros_16 : decode jq_Int_numberOfTrailingZeros.2.1 16 = .ok (.ireturn, 1) := by decide +kernel
theorem jd_Int_numberOfTrailingZeros_17 : decode jq_Int_numberOfTrailingZeros.2.1 17 = .ok (.iconst 1, 1) := by decide +kernel
theorem jd_Int_numberOfTrailingZeros_18 : decode jq_Int_numberOfTrailingZeros.2.1 18 = .ok (.istore_n 1, 1) := by decide +kernel
theorem jd_Int_numberOfTrailingZeros_19 : decode jq_Int_numberOfTrailingZeros.2.1 19 = .ok (.iload_n 0, 1) := by decide +kernel
theorem jd_Int_numberOfTrailingZeros_20 : decode jq_Int_numberOfTrailingZeros.2.1 20 = .ok (.ldc_w 264, 3) := by decide +kernel
theorem jd_Int_numberOfTrailingZeros_23 : decode jq_Int_numberOfTrailingZeros.2.1 23 = .ok (.if_icmp .le 11, 3) := by decide +kernel
theorem jd_Int_numberOfTrailingZeros_26 : decode jq_Int_numberOfTrailingZeros.2.1 26 = .ok (.iinc 1 16, 3) := by decide +kernel
theorem jd_Int_numberOfTrailingZeros_29 : decode jq_Int_numberOfTrailingZeros.2.1 29 = .ok (.iload_n 0, 1) := by decide +kernel
theorem jd_Int_numberOfTrailingZeros_30 : decode jq_Int_numberOfTrailingZeros.2.1 30 = .ok (.bipush 16, 2) := by decide +kernel
theorem jd_Int_numberOfTrailingZeros_32 : decode jq_Int_numberOfTrailingZeros.2.1 32 = .ok (.iushr, 1) := by decide +kernel
theorem jd_Int_numberOfTrailingZeros_33 : decode jq_Int_numberOfTrailingZeros.2.1 33 = .ok (.istore_n 0, 1) := by decide +kernel
theorem jd_Int_numberOfTrailingZeros_34 : decode jq_Int_numberOfTrailingZeros.2.1 34 = .ok (.iload_n 0, 1) := by decide +kernel
theorem jd_Int_numberOfTrailingZeros_35 : decode jq_Int_numberOfTrailingZeros.2.1 35 = .ok (.sipush 256, 3) := by decide +kernel
theorem jd_Int_numberOfTrailingZeros_38 : decode jq_Int_numberOfTrailingZeros.2.1 38 = .ok (.if_icmp .le 11, 3) := by decide +kernel
theorem jd_Int_numberOfTrailingZeros_41 : decode jq_Int_numberOfTrailingZeros.2.1 41 = .ok (.iinc 1 8, 3) := by decide +kernel
theorem jd_Int_numberOfTrailingZeros_44 : decode jq_Int_numberOfTrailingZeros.2.1 44 = .ok (.iload_n 0, 1) := by decide +kernel
theorem jd_Int_numberOfTrailingZeros_45 : decode jq_Int_numberOfTrailingZeros.2.1 45 = .ok (.bipush 8, 2) := by decide +kernel
theorem jd_Int_numberOfTrailingZeros_47 : decode jq_Int_numberOfTrailingZeros.2.1 47 = .ok (.iushr, 1) := by decide +kernel
theorem jd_Int_numberOfTrailingZeros_48 : decode jq_Int_numberOfTrailingZeros.2.1 48 = .ok (.istore_n 0, 1) := by decide +kernel
theorem jd_Int_numberOfTrailingZeros_49 : decode jq_Int_numberOfTrailingZeros.2.1 49 = .ok (.iload_n 0, 1) := by decide +kernel
theorem jd_Int_numberOfTrailingZeros_50 : decode jq_Int_numberOfTrailingZeros.2.1 50 = .ok (.bipush 16, 2) := by decide +kernel
theorem jd_Int_numberOfTrailingZeros_52 : decode jq_Int_numberOfTrailingZeros.2.1 52 = .ok (.if_icmp .le 10, 3) := by decide +kernel
theorem jd_Int_numberOfTrailingZeros_55 : decode jq_Int_numberOfTrailingZeros.2.1 55 = .ok (.iinc 1 4, 3) := by decide +kernel
theorem jd_Int_numberOfTrailingZeros_58 : decode jq_Int_numberOfTrailingZeros.2.1 58 = .ok (.iload_n 0, 1) := by decide +kernel
theorem jd_Int_numberOfTrailingZeros_59 : decode jq_Int_numberOfTrailingZeros.2.1 59 = .ok (.iconst 4, 1) := by decide +kernel
theorem jd_Int_numberOfTrailingZeros_60 : decode jq_Int_numberOfTrailingZeros.2.1 60 = .ok (.iushr, 1) := by decide +kernel
theorem jd_Int_numberOfTrailingZeros_61 : decode jq_Int_numberOfTrailingZeros.2.1 61 = .ok (.istore_n 0, 1) := by decide +kernel
theorem jd_Int_numberOfTrailingZeros_62 : decode jq_Int_numberOfTrailingZeros.2.1 62 = .ok (.iload_n 0, 1) := by decide +kernel
theorem jd_Int_numberOfTrailingZeros_63 : decode jq_Int_numberOfTrailingZeros.2.1 63 = .ok (.iconst 4, 1) := by decide +kernel
theorem jd_Int_numberOfTrailingZeros_64 : decode jq_Int_numberOfTrailingZeros.2.1 64 = .ok (.if_icmp .le 10, 3) := by decide +kernel
theorem jd_Int_numberOfTrailingZeros_67 : decode jq_Int_numberOfTrailingZeros.2.1 67 = .ok (.iinc 1 2, 3) := by decide +kernel
theorem jd_Int_numberOfTrailingZeros_70 : decode jq_Int_numberOfTrailingZeros.2.1 70 = .ok (.iload_n 0, 1) := by decide +kernel
theorem jd_Int_numberOfTrailingZeros_71 : decode jq_Int_numberOfTrailingZeros.2.1 71 = .ok (.iconst 2, 1) := by decide +kernel
theorem jd_Int_numberOfTrailingZeros_72 : decode jq_Int_numberOfTrailingZeros.2.1 72 = .ok (.iushr, 1) := by decide +kernel
theorem jd_Int_numberOfTrailingZeros_73 : decode jq_Int_numberOfTrailingZeros.2.1 73 = .ok (.istore_n 0, 1) := by decide +kernel
theorem jd_Int_numberOfTrailingZeros_74 : decode jq_Int_numberOfTrailingZeros.2.1 74 = .ok (.iload_n 1, 1) := by decide +kernel
theorem jd_Int_numberOfTrailingZeros_75 : decode jq_Int_numberOfTrailingZeros.2.1 75 = .ok (.iload_n 0, 1) := by decide +kernel
theorem jd_Int_numberOfTrailingZeros_76 : decode jq_Int_numberOfTrailingZeros.2.1 76 = .ok (.iconst 1, 1) := by decide +kernel
theorem jd_Int_numberOfTrailingZeros_77 : decode jq_Int_numberOfTrailingZeros.2.1 77 = .ok (.iushr, 1) := by decide +kernel
theorem jd_Int_numberOfTrailingZeros_78 : decode jq_Int_numberOfTrailingZeros.2.1 78 = .ok (.iadd, 1) := by decide +kernel
theorem jd_Int_numberOfTrailingZeros_79 : decode jq_Int_numberOfTrailingZeros.2.1 79 = .ok (.ireturn, 1) := by decide +kernel
theorem jd_Ca_choose_0 : decode jq_Ca_choose.2.1 0 = .ok (.iload_n 1, 1) := by decide +kernel
theorem jd_Ca_choose_1 : decode jq_Ca_choose.2.1 1 = .ok (.invokestatic 62, 3) := by decide +kernel
theorem jd_Ca_choose_4 : decode jq_Ca_choose.2.1 4 = .ok (.iconst 1, 1) := by decide +kernel
theorem jd_Ca_choose_5 : decode jq_Ca_choose.2.1 5 = .ok (.if_icmp .ne 8, 3) := by decide +kernel
theorem jd_Ca_choose_8 : decode jq_Ca_choose.2.1 8 = .ok (.iload_n 1, 1) := by decide +kernel
theorem jd_Ca_choose_9 : decode jq_Ca_choose.2.1 9 = .ok (.invokestatic 68, 3) := by decide +kernel
theorem jd_Ca_choose_12 : decode jq_Ca_choose.2.1 12 = .ok (.ireturn, 1) := by decide +kernel
theorem jd_Ca_choose_13 : decode jq_Ca_choose.2.1 13 = .ok (.iload_n 1, 1) := by decide +kernel
theorem jd_Ca_choose_14 : decode jq_Ca_choose.2.1 14 = .ok (.aload_n 0, 1) := by decide +kernel
theorem jd_Ca_choose_15 : decode jq_Ca_choose.2.1 15 = .ok (.iconst 1, 1) := by decide +kernel
theorem jd_Ca_choose_16 : decode jq_Ca_choose.2.1 16 = .ok (.invokevirtual 71, 3) := by decide +kernel
theorem jd_Ca_choose_19 : decode jq_Ca_choose.2.1 19 = .ok (.iand, 1) := by decide +kernel
theorem jd_Ca_choose_20 : decode jq_Ca_choose.2.1 20 = .ok (.istore_n 3, 1) := by decide +kernel
theorem jd_Ca_choose_21 : decode jq_Ca_choose.2.1 21 = .ok (.iload_n 3, 1) := by decide +kernel
theorem jd_Ca_choose_22 : decode jq_Ca_choose.2.1 22 = .ok (.ifCond .eq 21, 3) := by decide +kernel
theorem jd_Ca_choose_25 : decode jq_Ca_choose.2.1 25 = .ok (.iload_n 3, 1) := by decide +kernel
theorem jd_Ca_choose_26 : decode jq_Ca_choose.2.1 26 = .ok (.invokestatic 62, 3) := by decide +kernel
theorem jd_Ca_choose_29 : decode jq_Ca_choose.2.1 29 = .ok (.iconst 1, 1) := by decide +kernel
theorem jd_Ca_choose_30 : decode jq_Ca_choose.2.1 30 = .ok (.if_icmp .ne 10, 3) := by decide +kernel
theorem jd_Ca_choose_33 : decode jq_Ca_choose.2.1 33 = .ok (.iload_n 3, 1) := by decide +kernel
theorem jd_Ca_choose_34 : decode jq_Ca_choose.2.1 34 = .ok (.invokestatic 68, 3) := by decide +kernel
theorem jd_Ca_choose_37 : decode jq_Ca_choose.2.1 37 = .ok (.goto 5, 3) := by decide +kernel
theorem jd_Ca_choose_40 : decode jq_Ca_choose.2.1 40 = .ok (.bipush (-4), 2) := by decide +kernel
theorem jd_Ca_choose_42 : decode jq_Ca_choose.2.1 42 = .ok (.ireturn, 1) := by decide +kernel
theorem jd_Ca_choose_43 : decode jq_Ca_choose.2.1 43 = .ok (.iload_n 2, 1) := by decide +kernel
theorem jd_Ca_choose_44 : decode jq_Ca_choose.2.1 44 = .ok (.iconst (-1), 1) := by decide +kernel
theorem jd_Ca_choose_45 : decode jq_Ca_choose.2.1 45 = .ok (.if_icmp .eq 15, 3) := by decide +kernel
theorem jd_Ca_choose_48 : decode jq_Ca_choose.2.1 48 = .ok (.iload_n 1, 1) := by decide +kernel
theorem jd_Ca_choose_49 : decode jq_Ca_choose.2.1 49 = .ok (.iload_n 2, 1) := by decide +kernel
theorem jd_Ca_choose_50 : decode jq_Ca_choose.2.1 50 = .ok (.invokestatic 22, 3) := by decide +kernel
theorem jd_Ca_choose_53 : decode jq_Ca_choose.2.1 53 = .ok (.ifCond .eq 7, 3) := by decide +kernel
theorem jd_Ca_choose_56 : decode jq_Ca_choose.2.1 56 = .ok (.iload_n 2, 1) := by decide +kernel
theorem jd_Ca_choose_57 : decode jq_Ca_choose.2.1 57 = .ok (.goto 5, 3) := by decide +kernel
theorem jd_Ca_choose_60 : decode jq_Ca_choose.2.1 60 = .ok (.bipush (-4), 2) := by decide +kernel
theorem jd_Ca_choose_62 : decode jq_Ca_choose.2.1 62 = .ok (.ireturn, 1) := by decide +kernel
theorem jd_Ne_name_0 : decode jq_Ne_name.2.1 0 = .ok (.aload_n 0, 1) := by decide +kernel
theorem jd_Ne_name_1 : decode jq_Ne_name.2.1 1 = .ok (.getfield 16, 3) := by decide +kernel
theorem jd_Ne_name_4 : decode jq_Ne_name.2.1 4 = .ok (.ireturn, 1) := by decide +kernel
theorem jd_Be_init_0 : decode jq_Be_init.2.1 0 = .ok (.aload_n 0, 1) := by decide +kernel
theorem jd_Be_init_1 : decode jq_Be_init.2.1 1 = .ok (.invokespecial 1, 3) := by decide +kernel
theorem jd_Be_init_4 : decode jq_Be_init.2.1 4 = .ok (.aload_n 0, 1) := by decide +kernel
theorem jd_Be_init_5 : decode jq_Be_init.2.1 5 = .ok (.iload_n 1, 1) := by decide +kernel
theorem jd_Be_init_6 : decode jq_Be_init.2.1 6 = .ok (.putfield 7, 3) := by decide +kernel
theorem jd_Be_init_9 : decode jq_Be_init.2.1 9 = .ok (.aload_n 0, 1) := by decide +kernel
theorem jd_Be_init_10 : decode jq_Be_init.2.1 10 = .ok (.aload_n 2, 1) := by decide +kernel
theorem jd_Be_init_11 : decode jq_Be_init.2.1 11 = .ok (.putfield 13, 3) := by decide +kernel
theorem jd_Be_init_14 : decode jq_Be_init.2.1 14 = .ok (.aload_n 0, 1) := by decide +kernel
theorem jd_Be_init_15 : decode jq_Be_init.2.1 15 = .ok (.iload_n 3, 1) := by decide +kernel
theorem jd_Be_init_16 : decode jq_Be_init.2.1 16 = .ok (.putfield 17, 3) := by decide +kernel
theorem jd_Be_init_19 : decode jq_Be_init.2.1 19 = .ok (.aload_n 0, 1) := by decide +kernel
theorem jd_Be_init_20 : decode jq_Be_init.2.1 20 = .ok (.aload 4, 2) := by decide +kernel
theorem jd_Be_init_22 : decode jq_Be_init.2.1 22 = .ok (.putfield 21, 3) := by decide +kernel
theorem jd_Be_init_25 : decode jq_Be_init.2.1 25 = .ok (.return_, 1) := by decide +kernel
theorem jd_Ca_at_0 : decode jq_Ca_at.2.1 0 = .ok (.aload_n 0, 1) := by decide +kernel
theorem jd_Ca_at_1 : decode jq_Ca_at.2.1 1 = .ok (.getfield 18, 3) := by decide +kernel
theorem jd_Ca_at_4 : decode jq_Ca_at.2.1 4 = .ok (.iload_n 1, 1) := by decide +kernel
theorem jd_Ca_at_5 : decode jq_Ca_at.2.1 5 = .ok (.invokevirtual 33, 3) := by decide +kernel
theorem jd_Ca_at_8 : decode jq_Ca_at.2.1 8 = .ok (.checkcast 37, 3) := by decide +kernel
theorem jd_Ca_at_11 : decode jq_Ca_at.2.1 11 = .ok (.areturn, 1) := by decide +kernel
theorem jd_Wo_keep_0 : decode jq_Wo_keep.2.1 0 = .ok (.aload_n 0, 1) := by decide +kernel
theorem jd_Wo_keep_1 : decode jq_Wo_keep.2.1 1 = .ok (.getfield 12, 3) := by decide +kernel
theorem jd_Wo_keep_4 : decode jq_Wo_keep.2.1 4 = .ok (.invokevirtual 100, 3) := by decide +kernel
theorem jd_Wo_keep_7 : decode jq_Wo_keep.2.1 7 = .ok (.sipush 200, 3) := by decide +kernel
theorem jd_Wo_keep_10 : decode jq_Wo_keep.2.1 10 = .ok (.if_icmp .lt 6, 3) := by decide +kernel
theorem jd_Wo_keep_13 : decode jq_Wo_keep.2.1 13 = .ok (.bipush (-7), 2) := by decide +kernel
theorem jd_Wo_keep_15 : decode jq_Wo_keep.2.1 15 = .ok (.ireturn, 1) := by decide +kernel
theorem jd_Wo_keep_16 : decode jq_Wo_keep.2.1 16 = .ok (.aload_n 0, 1) := by decide +kernel
theorem jd_Wo_keep_17 : decode jq_Wo_keep.2.1 17 = .ok (.getfield 12, 3) := by decide +kernel
theorem jd_Wo_keep_20 : decode jq_Wo_keep.2.1 20 = .ok (.invokevirtual 100, 3) := by decide +kernel
theorem jd_Wo_keep_23 : decode jq_Wo_keep.2.1 23 = .ok (.istore_n 2, 1) := by decide +kernel
theorem jd_Wo_keep_24 : decode jq_Wo_keep.2.1 24 = .ok (.aload_n 0, 1) := by decide +kernel
theorem jd_Wo_keep_25 : decode jq_Wo_keep.2.1 25 = .ok (.getfield 12, 3) := by decide +kernel
theorem jd_Wo_keep_28 : decode jq_Wo_keep.2.1 28 = .ok (.aload_n 1, 1) := by decide +kernel
theorem jd_Wo_keep_29 : decode jq_Wo_keep.2.1 29 = .ok (.invokevirtual 114, 3) := by decide +kernel
theorem jd_Wo_keep_32 : decode jq_Wo_keep.2.1 32 = .ok (.pop, 1) := by decide +kernel
theorem jd_Wo_keep_33 : decode jq_Wo_keep.2.1 33 = .ok (.aload_n 1, 1) := by decide +kernel
theorem jd_Wo_keep_34 : decode jq_Wo_keep.2.1 34 = .ok (.getfield 118, 3) := by decide +kernel
theorem jd_Wo_keep_37 : decode jq_Wo_keep.2.1 37 = .ok (.getfield 26, 3) := by decide +kernel
theorem jd_Wo_keep_40 : decode jq_Wo_keep.2.1 40 = .ok (.getfield 62, 3) := by decide +kernel
theorem jd_Wo_keep_43 : decode jq_Wo_keep.2.1 43 = .ok (.aload_n 1, 1) := by decide +kernel
theorem jd_Wo_keep_44 : decode jq_Wo_keep.2.1 44 = .ok (.getfield 121, 3) := by decide +kernel
theorem jd_Wo_keep_47 : decode jq_Wo_keep.2.1 47 = .ok (.invokestatic 65, 3) := by decide +kernel
theorem jd_Wo_keep_50 : decode jq_Wo_keep.2.1 50 = .ok (.ifCond .eq 16, 3) := by decide +kernel
theorem jd_Wo_keep_53 : decode jq_Wo_keep.2.1 53 = .ok (.aload_n 1, 1) := by decide +kernel
theorem jd_Wo_keep_54 : decode jq_Wo_keep.2.1 54 = .ok (.getfield 118, 3) := by decide +kernel
theorem jd_Wo_keep_57 : decode jq_Wo_keep.2.1 57 = .ok (.getfield 69, 3) := by decide +kernel
theorem jd_Wo_keep_60 : decode jq_Wo_keep.2.1 60 = .ok (.aload_n 1, 1) := by decide +kernel
theorem jd_Wo_keep_61 : decode jq_Wo_keep.2.1 61 = .ok (.getfield 121, 3) := by decide +kernel
theorem jd_Wo_keep_64 : decode jq_Wo_keep.2.1 64 = .ok (.iload_n 2, 1) := by decide +kernel
theorem jd_Wo_keep_65 : decode jq_Wo_keep.2.1 65 = .ok (.iastore, 1) := by decide +kernel
theorem jd_Wo_keep_66 : decode jq_Wo_keep.2.1 66 = .ok (.aload_n 0, 1) := by decide +kernel
theorem jd_Wo_keep_67 : decode jq_Wo_keep.2.1 67 = .ok (.getfield 22, 3) := by decide +kernel
theorem jd_Wo_keep_70 : decode jq_Wo_keep.2.1 70 = .ok (.iconst 1, 1) := by decide +kernel
theorem jd_Wo_keep_71 : decode jq_Wo_keep.2.1 71 = .ok (.aload_n 1, 1) := by decide +kernel
theorem jd_Wo_keep_72 : decode jq_Wo_keep.2.1 72 = .ok (.getfield 121, 3) := by decide +kernel
theorem jd_Wo_keep_75 : decode jq_Wo_keep.2.1 75 = .ok (.invokevirtual 124, 3) := by decide +kernel
theorem jd_Wo_keep_78 : decode jq_Wo_keep.2.1 78 = .ok (.iload_n 2, 1) := by decide +kernel
theorem jd_Wo_keep_79 : decode jq_Wo_keep.2.1 79 = .ok (.ireturn, 1) := by decide +kernel
theorem jd_Wo_assemble_0 : decode jq_Wo_assemble.2.1 0 = .ok (.aload_n 0, 1) := by decide +kernel
theorem jd_Wo_assemble_1 : decode jq_Wo_assemble.2.1 1 = .ok (.getfield 18, 3) := by decide +kernel
theorem jd_Wo_assemble_4 : decode jq_Wo_assemble.2.1 4 = .ok (.iload_n 2, 1) := by decide +kernel
theorem jd_Wo_assemble_5 : decode jq_Wo_assemble.2.1 5 = .ok (.invokevirtual 91, 3) := by decide +kernel
theorem jd_Wo_assemble_8 : decode jq_Wo_assemble.2.1 8 = .ok (.astore 4, 2) := by decide +kernel
theorem jd_Wo_assemble_10 : decode jq_Wo_assemble.2.1 10 = .ok (.aload 4, 2) := by decide +kernel
theorem jd_Wo_assemble_12 : decode jq_Wo_assemble.2.1 12 = .ok (.getfield 95, 3) := by decide +kernel
theorem jd_Wo_assemble_15 : decode jq_Wo_assemble.2.1 15 = .ok (.invokevirtual 100, 3) := by decide +kernel
theorem jd_Wo_assemble_18 : decode jq_Wo_assemble.2.1 18 = .ok (.newarray .int, 2) := by decide +kernel
theorem jd_Wo_assemble_20 : decode jq_Wo_assemble.2.1 20 = .ok (.astore 5, 2) := by decide +kernel
theorem jd_Wo_assemble_22 : decode jq_Wo_assemble.2.1 22 = .ok (.iconst 0, 1) := by decide +kernel
theorem jd_Wo_assemble_23 : decode jq_Wo_assemble.2.1 23 = .ok (.istore 6, 2) := by decide +kernel
theorem jd_Wo_assemble_25 : decode jq_Wo_assemble.2.1 25 = .ok (.iload 6, 2) := by decide +kernel
theorem jd_Wo_assemble_27 : decode jq_Wo_assemble.2.1 27 = .ok (.aload 5, 2) := by decide +kernel
theorem jd_Wo_assemble_29 : decode jq_Wo_assemble.2.1 29 = .ok (.arraylength, 1) := by decide +kernel
theorem jd_Wo_assemble_30 : decode jq_Wo_assemble.2.1 30 = .ok (.if_icmp .ge 47, 3) := by decide +kernel
theorem jd_Wo_assemble_33 : decode jq_Wo_assemble.2.1 33 = .ok (.aload_n 0, 1) := by decide +kernel
theorem jd_Wo_assemble_34 : decode jq_Wo_assemble.2.1 34 = .ok (.aload_n 1, 1) := by decide +kernel
theorem jd_Wo_assemble_35 : decode jq_Wo_assemble.2.1 35 = .ok (.aload 4, 2) := by decide +kernel
theorem jd_Wo_assemble_37 : decode jq_Wo_assemble.2.1 37 = .ok (.getfield 95, 3) := by decide +kernel
theorem jd_Wo_assemble_40 : decode jq_Wo_assemble.2.1 40 = .ok (.iload 6, 2) := by decide +kernel
theorem jd_Wo_assemble_42 : decode jq_Wo_assemble.2.1 42 = .ok (.invokevirtual 103, 3) := by decide +kernel
theorem jd_Wo_assemble_45 : decode jq_Wo_assemble.2.1 45 = .ok (.checkcast 45, 3) := by decide +kernel
theorem jd_Wo_assemble_48 : decode jq_Wo_assemble.2.1 48 = .ok (.iload_n 3, 1) := by decide +kernel
theorem jd_Wo_assemble_49 : decode jq_Wo_assemble.2.1 49 = .ok (.iconst 1, 1) := by decide +kernel
