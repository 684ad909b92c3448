/-! What each instruction is. -/
theorem jd_Wo_assemble_50 : decode jq_Wo_assemble.2.1 50 = .ok (.iadd, 1) := by decide +kernel
theorem jd_Wo_assemble_51 : decode jq_Wo_assemble.2.1 51 = .ok (.invokevirtual 107, 3) := by decide +kernel
theorem jd_Wo_assemble_54 : decode jq_Wo_assemble.2.1 54 = .ok (.istore 7, 2) := by decide +kernel
theorem jd_Wo_assemble_56 : decode jq_Wo_assemble.2.1 56 = .ok (.iload 7, 2) := by decide +kernel
theorem jd_Wo_assemble_58 : decode jq_Wo_assemble.2.1 58 = .ok (.ifCond .ge 6, 3) := by decide +kernel
theorem jd_Wo_assemble_61 : decode jq_Wo_assemble.2.1 61 = .ok (.iload 7, 2) := by decide +kernel
theorem jd_Wo_assemble_63 : decode jq_Wo_assemble.2.1 63 = .ok (.ireturn, 1) := by decide +kernel
theorem jd_Wo_assemble_64 : decode jq_Wo_assemble.2.1 64 = .ok (.aload 5, 2) := by decide +kernel
theorem jd_Wo_assemble_66 : decode jq_Wo_assemble.2.1 66 = .ok (.iload 6, 2) := by decide +kernel
theorem jd_Wo_assemble_68 : decode jq_Wo_assemble.2.1 68 = .ok (.iload 7, 2) := by decide +kernel
theorem jd_Wo_assemble_70 : decode jq_Wo_assemble.2.1 70 = .ok (.iastore, 1) := by decide +kernel
theorem jd_Wo_assemble_71 : decode jq_Wo_assemble.2.1 71 = .ok (.iinc 6 1, 3) := by decide +kernel
theorem jd_Wo_assemble_74 : decode jq_Wo_assemble.2.1 74 = .ok (.goto (-49), 3) := by decide +kernel
theorem jd_Wo_assemble_77 : decode jq_Wo_assemble.2.1 77 = .ok (.aload 4, 2) := by decide +kernel
theorem jd_Wo_assemble_79 : decode jq_Wo_assemble.2.1 79 = .ok (.getfield 111, 3) := by decide +kernel
theorem jd_Wo_assemble_82 : decode jq_Wo_assemble.2.1 82 = .ok (.bipush 8, 2) := by decide +kernel
theorem jd_Wo_assemble_84 : decode jq_Wo_assemble.2.1 84 = .ok (.iand, 1) := by decide +kernel
theorem jd_Wo_assemble_85 : decode jq_Wo_assemble.2.1 85 = .ok (.ifCond .eq 7, 3) := by decide +kernel
theorem jd_Wo_assemble_88 : decode jq_Wo_assemble.2.1 88 = .ok (.iconst 1, 1) := by decide +kernel
theorem jd_Wo_assemble_89 : decode jq_Wo_assemble.2.1 89 = .ok (.goto 4, 3) := by decide +kernel
theorem jd_Wo_assemble_92 : decode jq_Wo_assemble.2.1 92 = .ok (.iconst 0, 1) := by decide +kernel
theorem jd_Wo_assemble_93 : decode jq_Wo_assemble.2.1 93 = .ok (.istore 6, 2) := by decide +kernel
theorem jd_Wo_assemble_95 : decode jq_Wo_assemble.2.1 95 = .ok (.iload 6, 2) := by decide +kernel
theorem jd_Wo_assemble_97 : decode jq_Wo_assemble.2.1 97 = .ok (.ifCond .eq 8, 3) := by decide +kernel
theorem jd_Wo_assemble_100 : decode jq_Wo_assemble.2.1 100 = .ok (.bipush (-6), 2) := by decide +kernel
theorem jd_Wo_assemble_102 : decode jq_Wo_assemble.2.1 102 = .ok (.goto 19, 3) := by decide +kernel
theorem jd_Wo_assemble_105 : decode jq_Wo_assemble.2.1 105 = .ok (.aload_n 0, 1) := by decide +kernel
theorem jd_Wo_assemble_106 : decode jq_Wo_assemble.2.1 106 = .ok (.new 76, 3) := by decide +kernel
theorem jd_Wo_assemble_109 : decode jq_Wo_assemble.2.1 109 = .ok (.dup, 1) := by decide +kernel
theorem jd_Wo_assemble_110 : decode jq_Wo_assemble.2.1 110 = .ok (.iload_n 2, 1) := by decide +kernel
theorem jd_Wo_assemble_111 : decode jq_Wo_assemble.2.1 111 = .ok (.aload_n 1, 1) := by decide +kernel
theorem jd_Wo_assemble_112 : decode jq_Wo_assemble.2.1 112 = .ok (.iconst 0, 1) := by decide +kernel
theorem jd_Wo_assemble_113 : decode jq_Wo_assemble.2.1 113 = .ok (.aload 5, 2) := by decide +kernel
theorem jd_Wo_assemble_115 : decode jq_Wo_assemble.2.1 115 = .ok (.invokespecial 78, 3) := by decide +kernel
theorem jd_Wo_assemble_118 : decode jq_Wo_assemble.2.1 118 = .ok (.invokevirtual 81, 3) := by decide +kernel
theorem jd_Wo_assemble_121 : decode jq_Wo_assemble.2.1 121 = .ok (.ireturn, 1) := by decide +kernel
theorem jd_Wo_supply_0 : decode jq_Wo_supply.2.1 0 = .ok (.aload_n 1, 1) := by decide +kernel
theorem jd_Wo_supply_1 : decode jq_Wo_supply.2.1 1 = .ok (.getfield 26, 3) := by decide +kernel
theorem jd_Wo_supply_4 : decode jq_Wo_supply.2.1 4 = .ok (.getfield 62, 3) := by decide +kernel
theorem jd_Wo_supply_7 : decode jq_Wo_supply.2.1 7 = .ok (.iload_n 2, 1) := by decide +kernel
theorem jd_Wo_supply_8 : decode jq_Wo_supply.2.1 8 = .ok (.invokestatic 65, 3) := by decide +kernel
theorem jd_Wo_supply_11 : decode jq_Wo_supply.2.1 11 = .ok (.ifCond .eq 20, 3) := by decide +kernel
theorem jd_Wo_supply_14 : decode jq_Wo_supply.2.1 14 = .ok (.aload_n 1, 1) := by decide +kernel
theorem jd_Wo_supply_15 : decode jq_Wo_supply.2.1 15 = .ok (.getfield 69, 3) := by decide +kernel
theorem jd_Wo_supply_18 : decode jq_Wo_supply.2.1 18 = .ok (.iload_n 2, 1) := by decide +kernel
theorem jd_Wo_supply_19 : decode jq_Wo_supply.2.1 19 = .ok (.iaload, 1) := by decide +kernel
theorem jd_Wo_supply_20 : decode jq_Wo_supply.2.1 20 = .ok (.iconst (-1), 1) := by decide +kernel
theorem jd_Wo_supply_21 : decode jq_Wo_supply.2.1 21 = .ok (.if_icmp .eq 10, 3) := by decide +kernel
theorem jd_Wo_supply_24 : decode jq_Wo_supply.2.1 24 = .ok (.aload_n 1, 1) := by decide +kernel
theorem jd_Wo_supply_25 : decode jq_Wo_supply.2.1 25 = .ok (.getfield 69, 3) := by decide +kernel
theorem jd_Wo_supply_28 : decode jq_Wo_supply.2.1 28 = .ok (.iload_n 2, 1) := by decide +kernel
theorem jd_Wo_supply_29 : decode jq_Wo_supply.2.1 29 = .ok (.iaload, 1) := by decide +kernel
theorem jd_Wo_supply_30 : decode jq_Wo_supply.2.1 30 = .ok (.ireturn, 1) := by decide +kernel
theorem jd_Wo_supply_31 : decode jq_Wo_supply.2.1 31 = .ok (.aload_n 1, 1) := by decide +kernel
theorem jd_Wo_supply_32 : decode jq_Wo_supply.2.1 32 = .ok (.getfield 26, 3) := by decide +kernel
theorem jd_Wo_supply_35 : decode jq_Wo_supply.2.1 35 = .ok (.getfield 73, 3) := by decide +kernel
theorem jd_Wo_supply_38 : decode jq_Wo_supply.2.1 38 = .ok (.iload_n 2, 1) := by decide +kernel
theorem jd_Wo_supply_39 : decode jq_Wo_supply.2.1 39 = .ok (.invokestatic 65, 3) := by decide +kernel
theorem jd_Wo_supply_42 : decode jq_Wo_supply.2.1 42 = .ok (.ifCond .eq 21, 3) := by decide +kernel
theorem jd_Wo_supply_45 : decode jq_Wo_supply.2.1 45 = .ok (.aload_n 0, 1) := by decide +kernel
theorem jd_Wo_supply_46 : decode jq_Wo_supply.2.1 46 = .ok (.new 76, 3) := by decide +kernel
theorem jd_Wo_supply_49 : decode jq_Wo_supply.2.1 49 = .ok (.dup, 1) := by decide +kernel
theorem jd_Wo_supply_50 : decode jq_Wo_supply.2.1 50 = .ok (.iload_n 2, 1) := by decide +kernel
theorem jd_Wo_supply_51 : decode jq_Wo_supply.2.1 51 = .ok (.aload_n 1, 1) := by decide +kernel
theorem jd_Wo_supply_52 : decode jq_Wo_supply.2.1 52 = .ok (.iconst 1, 1) := by decide +kernel
theorem jd_Wo_supply_53 : decode jq_Wo_supply.2.1 53 = .ok (.iconst 0, 1) := by decide +kernel
theorem jd_Wo_supply_54 : decode jq_Wo_supply.2.1 54 = .ok (.newarray .int, 2) := by decide +kernel
theorem jd_Wo_supply_56 : decode jq_Wo_supply.2.1 56 = .ok (.invokespecial 78, 3) := by decide +kernel
theorem jd_Wo_supply_59 : decode jq_Wo_supply.2.1 59 = .ok (.invokevirtual 81, 3) := by decide +kernel
theorem jd_Wo_supply_62 : decode jq_Wo_supply.2.1 62 = .ok (.ireturn, 1) := by decide +kernel
theorem jd_Wo_supply_63 : decode jq_Wo_supply.2.1 63 = .ok (.aload_n 1, 1) := by decide +kernel
theorem jd_Wo_supply_64 : decode jq_Wo_supply.2.1 64 = .ok (.getfield 85, 3) := by decide +kernel
theorem jd_Wo_supply_67 : decode jq_Wo_supply.2.1 67 = .ok (.iload_n 2, 1) := by decide +kernel
theorem jd_Wo_supply_68 : decode jq_Wo_supply.2.1 68 = .ok (.invokestatic 65, 3) := by decide +kernel
theorem jd_Wo_supply_71 : decode jq_Wo_supply.2.1 71 = .ok (.ifCond .ne 9, 3) := by decide +kernel
theorem jd_Wo_supply_74 : decode jq_Wo_supply.2.1 74 = .ok (.iload_n 3, 1) := by decide +kernel
theorem jd_Wo_supply_75 : decode jq_Wo_supply.2.1 75 = .ok (.bipush 30, 2) := by decide +kernel
theorem jd_Wo_supply_77 : decode jq_Wo_supply.2.1 77 = .ok (.if_icmp .lt 6, 3) := by decide +kernel
theorem jd_Wo_supply_80 : decode jq_Wo_supply.2.1 80 = .ok (.bipush (-5), 2) := by decide +kernel
theorem jd_Wo_supply_82 : decode jq_Wo_supply.2.1 82 = .ok (.ireturn, 1) := by decide +kernel
theorem jd_Wo_supply_83 : decode jq_Wo_supply.2.1 83 = .ok (.aload_n 1, 1) := by decide +kernel
theorem jd_Wo_supply_84 : decode jq_Wo_supply.2.1 84 = .ok (.dup, 1) := by decide +kernel
theorem jd_Wo_supply_85 : decode jq_Wo_supply.2.1 85 = .ok (.getfield 85, 3) := by decide +kernel
theorem jd_Wo_supply_88 : decode jq_Wo_supply.2.1 88 = .ok (.iconst 1, 1) := by decide +kernel
theorem jd_Wo_supply_89 : decode jq_Wo_supply.2.1 89 = .ok (.iload_n 2, 1) := by decide +kernel
theorem jd_Wo_supply_90 : decode jq_Wo_supply.2.1 90 = .ok (.ishl, 1) := by decide +kernel
theorem jd_Wo_supply_91 : decode jq_Wo_supply.2.1 91 = .ok (.ior, 1) := by decide +kernel
theorem jd_Wo_supply_92 : decode jq_Wo_supply.2.1 92 = .ok (.putfield 85, 3) := by decide +kernel
theorem jd_Wo_supply_95 : decode jq_Wo_supply.2.1 95 = .ok (.aload_n 0, 1) := by decide +kernel
theorem jd_Wo_supply_96 : decode jq_Wo_supply.2.1 96 = .ok (.aload_n 1, 1) := by decide +kernel
theorem jd_Wo_supply_97 : decode jq_Wo_supply.2.1 97 = .ok (.iload_n 2, 1) := by decide +kernel
theorem jd_Wo_supply_98 : decode jq_Wo_supply.2.1 98 = .ok (.iload_n 3, 1) := by decide +kernel
theorem jd_Wo_supply_99 : decode jq_Wo_supply.2.1 99 = .ok (.invokevirtual 88, 3) := by decide +kernel
theorem jd_Wo_supply_102 : decode jq_Wo_supply.2.1 102 = .ok (.istore 4, 2) := by decide +kernel
theorem jd_Wo_supply_104 : decode jq_Wo_supply.2.1 104 = .ok (.aload_n 1, 1) := by decide +kernel
theorem jd_Wo_supply_105 : decode jq_Wo_supply.2.1 105 = .ok (.dup, 1) := by decide +kernel
theorem jd_Wo_supply_106 : decode jq_Wo_supply.2.1 106 = .ok (.getfield 85, 3) := by decide +kernel
theorem jd_Wo_supply_109 : decode jq_Wo_supply.2.1 109 = .ok (.iconst 1, 1) := by decide +kernel
theorem jd_Wo_supply_110 : decode jq_Wo_supply.2.1 110 = .ok (.iload_n 2, 1) := by decide +kernel
theorem jd_Wo_supply_111 : decode jq_Wo_supply.2.1 111 = .ok (.ishl, 1) := by decide +kernel
theorem jd_Wo_supply_112 : decode jq_Wo_supply.2.1 112 = .ok (.iconst (-1), 1) := by decide +kernel
theorem jd_Wo_supply_113 : decode jq_Wo_supply.2.1 113 = .ok (.ixor, 1) := by decide +kernel
theorem jd_Wo_supply_114 : decode jq_Wo_supply.2.1 114 = .ok (.iand, 1) := by decide +kernel
theorem jd_Wo_supply_115 : decode jq_Wo_supply.2.1 115 = .ok (.putfield 85, 3) := by decide +kernel
theorem jd_Wo_supply_118 : decode jq_Wo_supply.2.1 118 = .ok (.iload 4, 2) := by decide +kernel
theorem jd_Wo_supply_120 : decode jq_Wo_supply.2.1 120 = .ok (.ireturn, 1) := by decide +kernel
theorem jd_Wo_supplyNeed_0 : decode jq_Wo_supplyNeed.2.1 0 = .ok (.aload_n 1, 1) := by decide +kernel
theorem jd_Wo_supplyNeed_1 : decode jq_Wo_supplyNeed.2.1 1 = .ok (.astore 4, 2) := by decide +kernel
theorem jd_Wo_supplyNeed_3 : decode jq_Wo_supplyNeed.2.1 3 = .ok (.aload 4, 2) := by decide +kernel
theorem jd_Wo_supplyNeed_5 : decode jq_Wo_supplyNeed.2.1 5 = .ok (.ifnull 71, 3) := by decide +kernel
theorem jd_Wo_supplyNeed_8 : decode jq_Wo_supplyNeed.2.1 8 = .ok (.aload_n 0, 1) := by decide +kernel
theorem jd_Wo_supplyNeed_9 : decode jq_Wo_supplyNeed.2.1 9 = .ok (.getfield 18, 3) := by decide +kernel
theorem jd_Wo_supplyNeed_12 : decode jq_Wo_supplyNeed.2.1 12 = .ok (.aload 4, 2) := by decide +kernel
theorem jd_Wo_supplyNeed_14 : decode jq_Wo_supplyNeed.2.1 14 = .ok (.getfield 26, 3) := by decide +kernel
theorem jd_Wo_supplyNeed_17 : decode jq_Wo_supplyNeed.2.1 17 = .ok (.getfield 32, 3) := by decide +kernel
theorem jd_Wo_supplyNeed_20 : decode jq_Wo_supplyNeed.2.1 20 = .ok (.aload_n 2, 1) := by decide +kernel
theorem jd_Wo_supplyNeed_21 : decode jq_Wo_supplyNeed.2.1 21 = .ok (.invokevirtual 38, 3) := by decide +kernel
theorem jd_Wo_supplyNeed_24 : decode jq_Wo_supplyNeed.2.1 24 = .ok (.istore 5, 2) := by decide +kernel
theorem jd_Wo_supplyNeed_26 : decode jq_Wo_supplyNeed.2.1 26 = .ok (.iload 5, 2) := by decide +kernel
theorem jd_Wo_supplyNeed_28 : decode jq_Wo_supplyNeed.2.1 28 = .ok (.ifCond .eq 38, 3) := by decide +kernel
theorem jd_Wo_supplyNeed_31 : decode jq_Wo_supplyNeed.2.1 31 = .ok (.aload_n 0, 1) := by decide +kernel
theorem jd_Wo_supplyNeed_32 : decode jq_Wo_supplyNeed.2.1 32 = .ok (.getfield 18, 3) := by decide +kernel
theorem jd_Wo_supplyNeed_35 : decode jq_Wo_supplyNeed.2.1 35 = .ok (.iload 5, 2) := by decide +kernel
theorem jd_Wo_supplyNeed_37 : decode jq_Wo_supplyNeed.2.1 37 = .ok (.aload_n 2, 1) := by decide +kernel
theorem jd_Wo_supplyNeed_38 : decode jq_Wo_supplyNeed.2.1 38 = .ok (.invokevirtual 44, 3) := by decide +kernel
theorem jd_Wo_supplyNeed_41 : decode jq_Wo_supplyNeed.2.1 41 = .ok (.invokevirtual 50, 3) := by decide +kernel
theorem jd_Wo_supplyNeed_44 : decode jq_Wo_supplyNeed.2.1 44 = .ok (.istore 6, 2) := by decide +kernel
theorem jd_Wo_supplyNeed_46 : decode jq_Wo_supplyNeed.2.1 46 = .ok (.iload 6, 2) := by decide +kernel
theorem jd_Wo_supplyNeed_48 : decode jq_Wo_supplyNeed.2.1 48 = .ok (.ifCond .ge 8, 3) := by decide +kernel
theorem jd_Wo_supplyNeed_51 : decode jq_Wo_supplyNeed.2.1 51 = .ok (.iload 6, 2) := by decide +kernel
theorem jd_Wo_supplyNeed_53 : decode jq_Wo_supplyNeed.2.1 53 = .ok (.goto 12, 3) := by decide +kernel
theorem jd_Wo_supplyNeed_56 : decode jq_Wo_supplyNeed.2.1 56 = .ok (.aload_n 0, 1) := by decide +kernel
theorem jd_Wo_supplyNeed_57 : decode jq_Wo_supplyNeed.2.1 57 = .ok (.aload 4, 2) := by decide +kernel
theorem jd_Wo_supplyNeed_59 : decode jq_Wo_supplyNeed.2.1 59 = .ok (.iload 6, 2) := by decide +kernel
theorem jd_Wo_supplyNeed_61 : decode jq_Wo_supplyNeed.2.1 61 = .ok (.iload_n 3, 1) := by decide +kernel
theorem jd_Wo_supplyNeed_62 : decode jq_Wo_supplyNeed.2.1 62 = .ok (.invokevirtual 54, 3) := by decide +kernel
theorem jd_Wo_supplyNeed_65 : decode jq_Wo_supplyNeed.2.1 65 = .ok (.ireturn, 1) := by decide +kernel
theorem jd_Wo_supplyNeed_66 : decode jq_Wo_supplyNeed.2.1 66 = .ok (.aload 4, 2) := by decide +kernel
theorem jd_Wo_supplyNeed_68 : decode jq_Wo_supplyNeed.2.1 68 = .ok (.getfield 58, 3) := by decide +kernel
theorem jd_Wo_supplyNeed_71 : decode jq_Wo_supplyNeed.2.1 71 = .ok (.astore 4, 2) := by decide +kernel
theorem jd_Wo_supplyNeed_73 : decode jq_Wo_supplyNeed.2.1 73 = .ok (.goto (-70), 3) := by decide +kernel
theorem jd_Wo_supplyNeed_76 : decode jq_Wo_supplyNeed.2.1 76 = .ok (.bipush (-3), 2) := by decide +kernel
theorem jd_Wo_supplyNeed_78 : decode jq_Wo_supplyNeed.2.1 78 = .ok (.ireturn, 1) := by decide +kernel
theorem jd_Bc_get_0 : decode jq_Bc_get.2.1 0 = .ok (.iload_n 2, 1) := by decide +kernel
theorem jd_Bc_get_1 : decode jq_Bc_get.2.1 1 = .ok (.invokestatic 61, 3) := by decide +kernel
theorem jd_Bc_get_4 : decode jq_Bc_get.2.1 4 = .ok (.ifCond .eq 18, 3) := by decide +kernel
theorem jd_Bc_get_7 : decode jq_Bc_get.2.1 7 = .ok (.iload_n 3, 1) := by decide +kernel
theorem jd_Bc_get_8 : decode jq_Bc_get.2.1 8 = .ok (.invokestatic 80, 3) := by decide +kernel
theorem jd_Bc_get_11 : decode jq_Bc_get.2.1 11 = .ok (.ifCond .eq 11, 3) := by decide +kernel
theorem jd_Bc_get_14 : decode jq_Bc_get.2.1 14 = .ok (.iload 4, 2) := by decide +kernel
theorem jd_Bc_get_16 : decode jq_Bc_get.2.1 16 = .ok (.invokestatic 95, 3) := by decide +kernel
theorem jd_Bc_get_19 : decode jq_Bc_get.2.1 19 = .ok (.ifCond .ne 5, 3) := by decide +kernel
theorem jd_Bc_get_22 : decode jq_Bc_get.2.1 22 = .ok (.iconst (-1), 1) := by decide +kernel
theorem jd_Bc_get_23 : decode jq_Bc_get.2.1 23 = .ok (.ireturn, 1) := by decide +kernel
theorem jd_Bc_get_24 : decode jq_Bc_get.2.1 24 = .ok (.aload_n 0, 1) := by decide +kernel
theorem jd_Bc_get_25 : decode jq_Bc_get.2.1 25 = .ok (.iload_n 1, 1) := by decide +kernel
theorem jd_Bc_get_26 : decode jq_Bc_get.2.1 26 = .ok (.invokevirtual 147, 3) := by decide +kernel
theorem jd_Bc_get_29 : decode jq_Bc_get.2.1 29 = .ok (.astore 5, 2) := by decide +kernel
theorem jd_Bc_get_31 : decode jq_Bc_get.2.1 31 = .ok (.aload 5, 2) := by decide +kernel
theorem jd_Bc_get_33 : decode jq_Bc_get.2.1 33 = .ok (.ifnonnull 7, 3) := by decide +kernel
theorem jd_Bc_get_36 : decode jq_Bc_get.2.1 36 = .ok (.iconst (-1), 1) := by decide +kernel
theorem jd_Bc_get_37 : decode jq_Bc_get.2.1 37 = .ok (.goto 24, 3) := by decide +kernel
theorem jd_Bc_get_40 : decode jq_Bc_get.2.1 40 = .ok (.aload_n 0, 1) := by decide +kernel
theorem jd_Bc_get_41 : decode jq_Bc_get.2.1 41 = .ok (.getfield 35, 3) := by decide +kernel
theorem jd_Bc_get_44 : decode jq_Bc_get.2.1 44 = .ok (.aload 5, 2) := by decide +kernel
theorem jd_Bc_get_46 : decode jq_Bc_get.2.1 46 = .ok (.new 102, 3) := by decide +kernel
theorem jd_Bc_get_49 : decode jq_Bc_get.2.1 49 = .ok (.dup, 1) := by decide +kernel
theorem jd_Bc_get_50 : decode jq_Bc_get.2.1 50 = .ok (.iload_n 2, 1) := by decide +kernel
theorem jd_Bc_get_51 : decode jq_Bc_get.2.1 51 = .ok (.iload_n 3, 1) := by decide +kernel
theorem jd_Bc_get_52 : decode jq_Bc_get.2.1 52 = .ok (.iload 4, 2) := by decide +kernel
theorem jd_Bc_get_54 : decode jq_Bc_get.2.1 54 = .ok (.invokespecial 104, 3) := by decide +kernel
theorem jd_Bc_get_57 : decode jq_Bc_get.2.1 57 = .ok (.iconst 0, 1) := by decide +kernel
theorem jd_Bc_get_58 : decode jq_Bc_get.2.1 58 = .ok (.invokevirtual 158, 3) := by decide +kernel
theorem jd_Bc_get_61 : decode jq_Bc_get.2.1 61 = .ok (.ireturn, 1) := by decide +kernel
theorem jd_Bc_key_0 : decode jq_Bc_key.2.1 0 = .ok (.aload_n 0, 1) := by decide +kernel
theorem jd_Bc_key_1 : decode jq_Bc_key.2.1 1 = .ok (.iload_n 1, 1) := by decide +kernel
theorem jd_Bc_key_2 : decode jq_Bc_key.2.1 2 = .ok (.invokevirtual 112, 3) := by decide +kernel
theorem jd_Bc_key_5 : decode jq_Bc_key.2.1 5 = .ok (.ifCond .eq 20, 3) := by decide +kernel
theorem jd_Bc_key_8 : decode jq_Bc_key.2.1 8 = .ok (.aload_n 0, 1) := by decide +kernel
theorem jd_Bc_key_9 : decode jq_Bc_key.2.1 9 = .ok (.getfield 19, 3) := by decide +kernel
theorem jd_Bc_key_12 : decode jq_Bc_key.2.1 12 = .ok (.iload_n 1, 1) := by decide +kernel
theorem jd_Bc_key_13 : decode jq_Bc_key.2.1 13 = .ok (.invokevirtual 115, 3) := by decide +kernel
theorem jd_Bc_key_16 : decode jq_Bc_key.2.1 16 = .ok (.checkcast 119, 3) := by decide +kernel
theorem jd_Bc_key_19 : decode jq_Bc_key.2.1 19 = .ok (.getfield 135, 3) := by decide +kernel
theorem jd_Bc_key_22 : decode jq_Bc_key.2.1 22 = .ok (.goto 4, 3) := by decide +kernel
theorem jd_Bc_key_25 : decode jq_Bc_key.2.1 25 = .ok (.iconst (-1), 1) := by decide +kernel
theorem jd_Bc_key_26 : decode jq_Bc_key.2.1 26 = .ok (.ireturn, 1) := by decide +kernel
theorem jd_De_addNeed_0 : decode jq_De_addNeed.2.1 0 = .ok (.aload_n 0, 1) := by decide +kernel
theorem jd_De_addNeed_1 : decode jq_De_addNeed.2.1 1 = .ok (.getfield 12, 3) := by decide +kernel
theorem jd_De_addNeed_4 : decode jq_De_addNeed.2.1 4 = .ok (.invokevirtual 31, 3) := by decide +kernel
theorem jd_De_addNeed_7 : decode jq_De_addNeed.2.1 7 = .ok (.iconst 3, 1) := by decide +kernel
theorem jd_De_addNeed_8 : decode jq_De_addNeed.2.1 8 = .ok (.if_icmp .lt 5, 3) := by decide +kernel
theorem jd_De_addNeed_11 : decode jq_De_addNeed.2.1 11 = .ok (.iconst 0, 1) := by decide +kernel
theorem jd_De_addNeed_12 : decode jq_De_addNeed.2.1 12 = .ok (.ireturn, 1) := by decide +kernel
theorem jd_De_addNeed_13 : decode jq_De_addNeed.2.1 13 = .ok (.aload_n 0, 1) := by decide +kernel
theorem jd_De_addNeed_14 : decode jq_De_addNeed.2.1 14 = .ok (.getfield 12, 3) := by decide +kernel
theorem jd_De_addNeed_17 : decode jq_De_addNeed.2.1 17 = .ok (.aload_n 1, 1) := by decide +kernel
theorem jd_De_addNeed_18 : decode jq_De_addNeed.2.1 18 = .ok (.invokevirtual 35, 3) := by decide +kernel
theorem jd_De_addNeed_21 : decode jq_De_addNeed.2.1 21 = .ok (.pop, 1) := by decide +kernel
theorem jd_De_addNeed_22 : decode jq_De_addNeed.2.1 22 = .ok (.iconst 1, 1) := by decide +kernel
theorem jd_De_addNeed_23 : decode jq_De_addNeed.2.1 23 = .ok (.ireturn, 1) := by decide +kernel
theorem jd_Bc_need_0 : decode jq_Bc_need.2.1 0 = .ok (.aload_n 0, 1) := by decide +kernel
theorem jd_Bc_need_1 : decode jq_Bc_need.2.1 1 = .ok (.getfield 19, 3) := by decide +kernel
theorem jd_Bc_need_4 : decode jq_Bc_need.2.1 4 = .ok (.invokevirtual 57, 3) := by decide +kernel
theorem jd_Bc_need_7 : decode jq_Bc_need.2.1 7 = .ok (.ifCond .eq 17, 3) := by decide +kernel
theorem jd_Bc_need_10 : decode jq_Bc_need.2.1 10 = .ok (.iload_n 1, 1) := by decide +kernel
theorem jd_Bc_need_11 : decode jq_Bc_need.2.1 11 = .ok (.aload_n 0, 1) := by decide +kernel
theorem jd_Bc_need_12 : decode jq_Bc_need.2.1 12 = .ok (.getfield 10, 3) := by decide +kernel
theorem jd_Bc_need_15 : decode jq_Bc_need.2.1 15 = .ok (.invokevirtual 73, 3) := by decide +kernel
theorem jd_Bc_need_18 : decode jq_Bc_need.2.1 18 = .ok (.invokestatic 77, 3) := by decide +kernel
theorem jd_Bc_need_21 : decode jq_Bc_need.2.1 21 = .ok (.ifCond .ne 5, 3) := by decide +kernel
theorem jd_Bc_need_24 : decode jq_Bc_need.2.1 24 = .ok (.iconst 0, 1) := by decide +kernel
theorem jd_Bc_need_25 : decode jq_Bc_need.2.1 25 = .ok (.ireturn, 1) := by decide +kernel
theorem jd_Bc_need_26 : decode jq_Bc_need.2.1 26 = .ok (.iload_n 2, 1) := by decide +kernel
theorem jd_Bc_need_27 : decode jq_Bc_need.2.1 27 = .ok (.invokestatic 61, 3) := by decide +kernel
theorem jd_Bc_need_30 : decode jq_Bc_need.2.1 30 = .ok (.ifCond .eq 18, 3) := by decide +kernel
theorem jd_Bc_need_33 : decode jq_Bc_need.2.1 33 = .ok (.iload_n 3, 1) := by decide +kernel
theorem jd_Bc_need_34 : decode jq_Bc_need.2.1 34 = .ok (.invokestatic 80, 3) := by decide +kernel
theorem jd_Bc_need_37 : decode jq_Bc_need.2.1 37 = .ok (.ifCond .eq 11, 3) := by decide +kernel
theorem jd_Bc_need_40 : decode jq_Bc_need.2.1 40 = .ok (.iload 4, 2) := by decide +kernel
theorem jd_Bc_need_42 : decode jq_Bc_need.2.1 42 = .ok (.invokestatic 95, 3) := by decide +kernel
theorem jd_Bc_need_45 : decode jq_Bc_need.2.1 45 = .ok (.ifCond .ne 5, 3) := by decide +kernel
theorem jd_Bc_need_48 : decode jq_Bc_need.2.1 48 = .ok (.iconst 0, 1) := by decide +kernel
theorem jd_Bc_need_49 : decode jq_Bc_need.2.1 49 = .ok (.ireturn, 1) := by decide +kernel
theorem jd_Bc_need_50 : decode jq_Bc_need.2.1 50 = .ok (.aload_n 0, 1) := by decide +kernel
theorem jd_Bc_need_51 : decode jq_Bc_need.2.1 51 = .ok (.getfield 10, 3) := by decide +kernel
theorem jd_Bc_need_54 : decode jq_Bc_need.2.1 54 = .ok (.iload_n 1, 1) := by decide +kernel
theorem jd_Bc_need_55 : decode jq_Bc_need.2.1 55 = .ok (.invokevirtual 98, 3) := by decide +kernel
theorem jd_Bc_need_58 : decode jq_Bc_need.2.1 58 = .ok (.new 102, 3) := by decide +kernel
theorem jd_Bc_need_61 : decode jq_Bc_need.2.1 61 = .ok (.dup, 1) := by decide +kernel
theorem jd_Bc_need_62 : decode jq_Bc_need.2.1 62 = .ok (.iload_n 2, 1) := by decide +kernel
theorem jd_Bc_need_63 : decode jq_Bc_need.2.1 63 = .ok (.iload_n 3, 1) := by decide +kernel
theorem jd_Bc_need_64 : decode jq_Bc_need.2.1 64 = .ok (.iload 4, 2) := by decide +kernel
theorem jd_Bc_need_66 : decode jq_Bc_need.2.1 66 = .ok (.invokespecial 104, 3) := by decide +kernel
theorem jd_Bc_need_69 : decode jq_Bc_need.2.1 69 = .ok (.invokevirtual 107, 3) := by decide +kernel
theorem jd_Bc_need_72 : decode jq_Bc_need.2.1 72 = .ok (.ireturn, 1) := by decide +kernel
theorem jd_Wo_liveMock_0 : decode jq_Wo_liveMock.2.1 0 = .ok (.aload_n 0, 1) := by decide +kernel
theorem jd_Wo_liveMock_1 : decode jq_Wo_liveMock.2.1 1 = .ok (.iload_n 1, 1) := by decide +kernel
theorem jd_Wo_liveMock_2 : decode jq_Wo_liveMock.2.1 2 = .ok (.invokevirtual 137, 3) := by decide +kernel
theorem jd_Wo_liveMock_5 : decode jq_Wo_liveMock.2.1 5 = .ok (.astore_n 2, 1) := by decide +kernel
theorem jd_Wo_liveMock_6 : decode jq_Wo_liveMock.2.1 6 = .ok (.aload_n 2, 1) := by decide +kernel
theorem jd_Wo_liveMock_7 : decode jq_Wo_liveMock.2.1 7 = .ok (.ifnull 14, 3) := by decide +kernel
theorem jd_Wo_liveMock_10 : decode jq_Wo_liveMock.2.1 10 = .ok (.aload_n 2, 1) := by decide +kernel
theorem jd_Wo_liveMock_11 : decode jq_Wo_liveMock.2.1 11 = .ok (.getfield 141, 3) := by decide +kernel
theorem jd_Wo_liveMock_14 : decode jq_Wo_liveMock.2.1 14 = .ok (.ifCond .eq 7, 3) := by decide +kernel
theorem jd_Wo_liveMock_17 : decode jq_Wo_liveMock.2.1 17 = .ok (.aload_n 2, 1) := by decide +kernel
theorem jd_Wo_liveMock_18 : decode jq_Wo_liveMock.2.1 18 = .ok (.goto 4, 3) := by decide +kernel
theorem jd_Wo_liveMock_21 : decode jq_Wo_liveMock.2.1 21 = .ok (.aconst_null, 1) := by decide +kernel
theorem jd_Wo_liveMock_22 : decode jq_Wo_liveMock.2.1 22 = .ok (.areturn, 1) := by decide +kernel
theorem jd_Bc_recorded_0 : decode jq_Bc_recorded.2.1 0 = .ok (.aload_n 0, 1) := by decide +kernel
theorem jd_Bc_recorded_1 : decode jq_Bc_recorded.2.1 1 = .ok (.getfield 35, 3) := by decide +kernel
theorem jd_Bc_recorded_4 : decode jq_Bc_recorded.2.1 4 = .ok (.iload_n 1, 1) := by decide +kernel
theorem jd_Bc_recorded_5 : decode jq_Bc_recorded.2.1 5 = .ok (.invokevirtual 172, 3) := by decide +kernel
theorem jd_Bc_recorded_8 : decode jq_Bc_recorded.2.1 8 = .ok (.astore_n 3, 1) := by decide +kernel
theorem jd_Bc_recorded_9 : decode jq_Bc_recorded.2.1 9 = .ok (.aload_n 3, 1) := by decide +kernel
theorem jd_Bc_recorded_10 : decode jq_Bc_recorded.2.1 10 = .ok (.ifnull 11, 3) := by decide +kernel
theorem jd_Bc_recorded_13 : decode jq_Bc_recorded.2.1 13 = .ok (.iload_n 2, 1) := by decide +kernel
theorem jd_Bc_recorded_14 : decode jq_Bc_recorded.2.1 14 = .ok (.iconst 2, 1) := by decide +kernel
theorem jd_Bc_recorded_15 : decode jq_Bc_recorded.2.1 15 = .ok (.invokestatic 77, 3) := by decide +kernel
theorem jd_Bc_recorded_18 : decode jq_Bc_recorded.2.1 18 = .ok (.ifCond .ne 7, 3) := by decide +kernel
theorem jd_Bc_recorded_21 : decode jq_Bc_recorded.2.1 21 = .ok (.ldc2_w 166, 3) := by decide +kernel
theorem jd_Bc_recorded_24 : decode jq_Bc_recorded.2.1 24 = .ok (.lreturn, 1) := by decide +kernel
theorem jd_Bc_recorded_25 : decode jq_Bc_recorded.2.1 25 = .ok (.iload_n 2, 1) := by decide +kernel
theorem jd_Bc_recorded_26 : decode jq_Bc_recorded.2.1 26 = .ok (.ifCond .ne 11, 3) := by decide +kernel
theorem jd_Bc_recorded_29 : decode jq_Bc_recorded.2.1 29 = .ok (.aload_n 3, 1) := by decide +kernel
theorem jd_Bc_recorded_30 : decode jq_Bc_recorded.2.1 30 = .ok (.getfield 180, 3) := by decide +kernel
theorem jd_Bc_recorded_33 : decode jq_Bc_recorded.2.1 33 = .ok (.i2l, 1) := by decide +kernel
theorem jd_Bc_recorded_34 : decode jq_Bc_recorded.2.1 34 = .ok (.goto 8, 3) := by decide +kernel
theorem jd_Bc_recorded_37 : decode jq_Bc_recorded.2.1 37 = .ok (.aload_n 3, 1) := by decide +kernel
theorem jd_Bc_recorded_38 : decode jq_Bc_recorded.2.1 38 = .ok (.getfield 183, 3) := by decide +kernel
theorem jd_Bc_recorded_41 : decode jq_Bc_recorded.2.1 41 = .ok (.i2l, 1) := by decide +kernel
theorem jd_Bc_recorded_42 : decode jq_Bc_recorded.2.1 42 = .ok (.lreturn, 1) := by decide +kernel
theorem jd_Arr_fill_0 : decode jq_Arr_fill.2.1 0 = .ok (.iconst 0, 1) := by decide +kernel
theorem jd_Arr_fill_1 : decode jq_Arr_fill.2.1 1 = .ok (.istore_n 2, 1) := by decide +kernel
theorem jd_Arr_fill_2 : decode jq_Arr_fill.2.1 2 = .ok (.aload_n 0, 1) := by decide +kernel
theorem jd_Arr_fill_3 : decode jq_Arr_fill.2.1 3 = .ok (.arraylength, 1) := by decide +kernel
theorem jd_Arr_fill_4 : decode jq_Arr_fill.2.1 4 = .ok (.istore_n 3, 1) := by decide +kernel
theorem jd_Arr_fill_5 : decode jq_Arr_fill.2.1 5 = .ok (.iload_n 2, 1) := by decide +kernel
theorem jd_Arr_fill_6 : decode jq_Arr_fill.2.1 6 = .ok (.iload_n 3, 1) := by decide +kernel
theorem jd_Arr_fill_7 : decode jq_Arr_fill.2.1 7 = .ok (.if_icmp .ge 13, 3) := by decide +kernel
theorem jd_Arr_fill_10 : decode jq_Arr_fill.2.1 10 = .ok (.aload_n 0, 1) := by decide +kernel
theorem jd_Arr_fill_11 : decode jq_Arr_fill.2.1 11 = .ok (.iload_n 2, 1) := by decide +kernel
theorem jd_Arr_fill_12 : decode jq_Arr_fill.2.1 12 = .ok (.iload_n 1, 1) := by decide +kernel
theorem jd_Arr_fill_13 : decode jq_Arr_fill.2.1 13 = .ok (.iastore, 1) := by decide +kernel
theorem jd_Arr_fill_14 : decode jq_Arr_fill.2.1 14 = .ok (.iinc 2 1, 3) := by decide +kernel
theorem jd_Arr_fill_17 : decode jq_Arr_fill.2.1 17 = .ok (.goto (-12), 3) := by decide +kernel
theorem jd_Arr_fill_20 : decode jq_Arr_fill.2.1 20 = .ok (.return_, 1) := by decide +kernel
theorem jd_Co_init_0 : decode jq_Co_init.2.1 0 = .ok (.aload_n 0, 1) := by decide +kernel
theorem jd_Co_init_1 : decode jq_Co_init.2.1 1 = .ok (.invokespecial 3, 3) := by decide +kernel
theorem jd_Co_init_4 : decode jq_Co_init.2.1 4 = .ok (.aload_n 0, 1) := by decide +kernel
theorem jd_Co_init_5 : decode jq_Co_init.2.1 5 = .ok (.bipush 10, 2) := by decide +kernel
theorem jd_Co_init_7 : decode jq_Co_init.2.1 7 = .ok (.newarray .int, 2) := by decide +kernel
theorem jd_Co_init_9 : decode jq_Co_init.2.1 9 = .ok (.putfield 9, 3) := by decide +kernel
theorem jd_Co_init_12 : decode jq_Co_init.2.1 12 = .ok (.aload_n 0, 1) := by decide +kernel
theorem jd_Co_init_13 : decode jq_Co_init.2.1 13 = .ok (.iload_n 1, 1) := by decide +kernel
theorem jd_Co_init_14 : decode jq_Co_init.2.1 14 = .ok (.putfield 15, 3) := by decide +kernel
theorem jd_Co_init_17 : decode jq_Co_init.2.1 17 = .ok (.aload_n 0, 1) := by decide +kernel
theorem jd_Co_init_18 : decode jq_Co_init.2.1 18 = .ok (.aload_n 2, 1) := by decide +kernel
theorem jd_Co_init_19 : decode jq_Co_init.2.1 19 = .ok (.putfield 19, 3) := by decide +kernel
theorem jd_Co_init_22 : decode jq_Co_init.2.1 22 = .ok (.aload_n 0, 1) := by decide +kernel
theorem jd_Co_init_23 : decode jq_Co_init.2.1 23 = .ok (.aload_n 3, 1) := by decide +kernel
theorem jd_Co_init_24 : decode jq_Co_init.2.1 24 = .ok (.putfield 23, 3) := by decide +kernel
theorem jd_Co_init_27 : decode jq_Co_init.2.1 27 = .ok (.aload_n 0, 1) := by decide +kernel
theorem jd_Co_init_28 : decode jq_Co_init.2.1 28 = .ok (.getfield 9, 3) := by decide +kernel
theorem jd_Co_init_31 : decode jq_Co_init.2.1 31 = .ok (.iconst (-1), 1) := by decide +kernel
theorem jd_Co_init_32 : decode jq_Co_init.2.1 32 = .ok (.invokestatic 27, 3) := by decide +kernel
theorem jd_Co_init_35 : decode jq_Co_init.2.1 35 = .ok (.return_, 1) := by decide +kernel
theorem jd_Co_hasAncestor_0 : decode jq_Co_hasAncestor.2.1 0 = .ok (.aload_n 0, 1) := by decide +kernel
theorem jd_Co_hasAncestor_1 : decode jq_Co_hasAncestor.2.1 1 = .ok (.getfield 23, 3) := by decide +kernel
theorem jd_Co_hasAncestor_4 : decode jq_Co_hasAncestor.2.1 4 = .ok (.astore_n 2, 1) := by decide +kernel
theorem jd_Co_hasAncestor_5 : decode jq_Co_hasAncestor.2.1 5 = .ok (.aload_n 2, 1) := by decide +kernel
theorem jd_Co_hasAncestor_6 : decode jq_Co_hasAncestor.2.1 6 = .ok (.ifnull 18, 3) := by decide +kernel
theorem jd_Co_hasAncestor_9 : decode jq_Co_hasAncestor.2.1 9 = .ok (.aload_n 2, 1) := by decide +kernel
theorem jd_Co_hasAncestor_10 : decode jq_Co_hasAncestor.2.1 10 = .ok (.aload_n 1, 1) := by decide +kernel
theorem jd_Co_hasAncestor_11 : decode jq_Co_hasAncestor.2.1 11 = .ok (.if_acmp .ne 5, 3) := by decide +kernel
theorem jd_Co_hasAncestor_14 : decode jq_Co_hasAncestor.2.1 14 = .ok (.iconst 1, 1) := by decide +kernel
theorem jd_Co_hasAncestor_15 : decode jq_Co_hasAncestor.2.1 15 = .ok (.ireturn, 1) := by decide +kernel
theorem jd_Co_hasAncestor_16 : decode jq_Co_hasAncestor.2.1 16 = .ok (.aload_n 2, 1) := by decide +kernel
theorem jd_Co_hasAncestor_17 : decode jq_Co_hasAncestor.2.1 17 = .ok (.getfield 23, 3) := by decide +kernel
theorem jd_Co_hasAncestor_20 : decode jq_Co_hasAncestor.2.1 20 = .ok (.astore_n 2, 1) := by decide +kernel
theorem jd_Co_hasAncestor_21 : decode jq_Co_hasAncestor.2.1 21 = .ok (.goto (-16), 3) := by decide +kernel
theorem jd_Co_hasAncestor_24 : decode jq_Co_hasAncestor.2.1 24 = .ok (.iconst 0, 1) := by decide +kernel
theorem jd_Co_hasAncestor_25 : decode jq_Co_hasAncestor.2.1 25 = .ok (.ireturn, 1) := by decide +kernel
theorem jd_Sh_displaceFor_0 : decode jq_Sh_displaceFor.2.1 0 = .ok (.aload_n 0, 1) := by decide +kernel
theorem jd_Sh_displaceFor_1 : decode jq_Sh_displaceFor.2.1 1 = .ok (.getfield 18, 3) := by decide +kernel
theorem jd_Sh_displaceFor_4 : decode jq_Sh_displaceFor.2.1 4 = .ok (.invokevirtual 33, 3) := by decide +kernel
theorem jd_Sh_displaceFor_7 : decode jq_Sh_displaceFor.2.1 7 = .ok (.iconst 1, 1) := by decide +kernel
theorem jd_Sh_displaceFor_8 : decode jq_Sh_displaceFor.2.1 8 = .ok (.isub, 1) := by decide +kernel
theorem jd_Sh_displaceFor_9 : decode jq_Sh_displaceFor.2.1 9 = .ok (.istore_n 2, 1) := by decide +kernel
theorem jd_Sh_displaceFor_10 : decode jq_Sh_displaceFor.2.1 10 = .ok (.iload_n 2, 1) := by decide +kernel
theorem jd_Sh_displaceFor_11 : decode jq_Sh_displaceFor.2.1 11 = .ok (.ifCond .lt 44, 3) := by decide +kernel
theorem jd_Sh_displaceFor_14 : decode jq_Sh_displaceFor.2.1 14 = .ok (.aload_n 1, 1) := by decide +kernel
theorem jd_Sh_displaceFor_15 : decode jq_Sh_displaceFor.2.1 15 = .ok (.aload_n 0, 1) := by decide +kernel
theorem jd_Sh_displaceFor_16 : decode jq_Sh_displaceFor.2.1 16 = .ok (.getfield 18, 3) := by decide +kernel
theorem jd_Sh_displaceFor_19 : decode jq_Sh_displaceFor.2.1 19 = .ok (.iload_n 2, 1) := by decide +kernel
theorem jd_Sh_displaceFor_20 : decode jq_Sh_displaceFor.2.1 20 = .ok (.invokevirtual 37, 3) := by decide +kernel
theorem jd_Sh_displaceFor_23 : decode jq_Sh_displaceFor.2.1 23 = .ok (.checkcast 41, 3) := by decide +kernel
theorem jd_Sh_displaceFor_26 : decode jq_Sh_displaceFor.2.1 26 = .ok (.invokevirtual 119, 3) := by decide +kernel
theorem jd_Sh_displaceFor_29 : decode jq_Sh_displaceFor.2.1 29 = .ok (.ifCond .ne 20, 3) := by decide +kernel
theorem jd_Sh_displaceFor_32 : decode jq_Sh_displaceFor.2.1 32 = .ok (.aload_n 0, 1) := by decide +kernel
theorem jd_Sh_displaceFor_33 : decode jq_Sh_displaceFor.2.1 33 = .ok (.aload_n 0, 1) := by decide +kernel
theorem jd_Sh_displaceFor_34 : decode jq_Sh_displaceFor.2.1 34 = .ok (.getfield 18, 3) := by decide +kernel
theorem jd_Sh_displaceFor_37 : decode jq_Sh_displaceFor.2.1 37 = .ok (.iload_n 2, 1) := by decide +kernel
theorem jd_Sh_displaceFor_38 : decode jq_Sh_displaceFor.2.1 38 = .ok (.invokevirtual 37, 3) := by decide +kernel
theorem jd_Sh_displaceFor_41 : decode jq_Sh_displaceFor.2.1 41 = .ok (.checkcast 41, 3) := by decide +kernel
theorem jd_Sh_displaceFor_44 : decode jq_Sh_displaceFor.2.1 44 = .ok (.invokevirtual 123, 3) := by decide +kernel
theorem jd_Sh_displaceFor_47 : decode jq_Sh_displaceFor.2.1 47 = .ok (.pop, 1) := by decide +kernel
theorem jd_Sh_displaceFor_48 : decode jq_Sh_displaceFor.2.1 48 = .ok (.return_, 1) := by decide +kernel
theorem jd_Sh_displaceFor_49 : decode jq_Sh_displaceFor.2.1 49 = .ok (.iinc 2 (-1), 3) := by decide +kernel
theorem jd_Sh_displaceFor_52 : decode jq_Sh_displaceFor.2.1 52 = .ok (.goto (-42), 3) := by decide +kernel
theorem jd_Sh_displaceFor_55 : decode jq_Sh_displaceFor.2.1 55 = .ok (.return_, 1) := by decide +kernel
theorem jd_AL_rangeCheckForAdd_0 : decode jq_AL_rangeCheckForAdd.2.1 0 = .ok (.iload_n 1, 1) := by decide +kernel
theorem jd_AL_rangeCheckForAdd_1 : decode jq_AL_rangeCheckForAdd.2.1 1 = .ok (.aload_n 0, 1) := by decide +kernel
theorem jd_AL_rangeCheckForAdd_2 : decode jq_AL_rangeCheckForAdd.2.1 2 = .ok (.getfield 48, 3) := by decide +kernel
theorem jd_AL_rangeCheckForAdd_5 : decode jq_AL_rangeCheckForAdd.2.1 5 = .ok (.if_icmp .gt 7, 3) := by decide +kernel
theorem jd_AL_rangeCheckForAdd_8 : decode jq_AL_rangeCheckForAdd.2.1 8 = .ok (.iload_n 1, 1) := by decide +kernel
theorem jd_AL_rangeCheckForAdd_9 : decode jq_AL_rangeCheckForAdd.2.1 9 = .ok (.ifCond .ge 16, 3) := by decide +kernel
theorem jd_AL_rangeCheckForAdd_25 : decode jq_AL_rangeCheckForAdd.2.1 25 = .ok (.return_, 1) := by decide +kernel
theorem jd_AL_addAt_0 : decode jq_AL_addAt.2.1 0 = .ok (.aload_n 0, 1) := by decide +kernel
theorem jd_AL_addAt_1 : decode jq_AL_addAt.2.1 1 = .ok (.iload_n 1, 1) := by decide +kernel
theorem jd_AL_addAt_2 : decode jq_AL_addAt.2.1 2 = .ok (.invokevirtual 135, 3) := by decide +kernel
theorem jd_AL_addAt_5 : decode jq_AL_addAt.2.1 5 = .ok (.aload_n 0, 1) := by decide +kernel
theorem jd_AL_addAt_6 : decode jq_AL_addAt.2.1 6 = .ok (.dup, 1) := by decide +kernel
theorem jd_AL_addAt_7 : decode jq_AL_addAt.2.1 7 = .ok (.getfield 63, 3) := by decide +kernel
theorem jd_AL_addAt_10 : decode jq_AL_addAt.2.1 10 = .ok (.iconst 1, 1) := by decide +kernel
theorem jd_AL_addAt_11 : decode jq_AL_addAt.2.1 11 = .ok (.iadd, 1) := by decide +kernel
theorem jd_AL_addAt_12 : decode jq_AL_addAt.2.1 12 = .ok (.putfield 63, 3) := by decide +kernel
theorem jd_AL_addAt_15 : decode jq_AL_addAt.2.1 15 = .ok (.aload_n 0, 1) := by decide +kernel
theorem jd_AL_addAt_16 : decode jq_AL_addAt.2.1 16 = .ok (.getfield 48, 3) := by decide +kernel
theorem jd_AL_addAt_19 : decode jq_AL_addAt.2.1 19 = .ok (.dup, 1) := by decide +kernel
theorem jd_AL_addAt_20 : decode jq_AL_addAt.2.1 20 = .ok (.istore_n 3, 1) := by decide +kernel
theorem jd_AL_addAt_21 : decode jq_AL_addAt.2.1 21 = .ok (.aload_n 0, 1) := by decide +kernel
theorem jd_AL_addAt_22 : decode jq_AL_addAt.2.1 22 = .ok (.getfield 9, 3) := by decide +kernel
theorem jd_AL_addAt_25 : decode jq_AL_addAt.2.1 25 = .ok (.dup, 1) := by decide +kernel
theorem jd_AL_addAt_26 : decode jq_AL_addAt.2.1 26 = .ok (.astore 4, 2) := by decide +kernel
theorem jd_AL_addAt_28 : decode jq_AL_addAt.2.1 28 = .ok (.arraylength, 1) := by decide +kernel
theorem jd_AL_addAt_29 : decode jq_AL_addAt.2.1 29 = .ok (.if_icmp .ne 9, 3) := by decide +kernel
theorem jd_AL_addAt_32 : decode jq_AL_addAt.2.1 32 = .ok (.aload_n 0, 1) := by decide +kernel
theorem jd_AL_addAt_33 : decode jq_AL_addAt.2.1 33 = .ok (.invokevirtual 129, 3) := by decide +kernel
theorem jd_AL_addAt_36 : decode jq_AL_addAt.2.1 36 = .ok (.astore 4, 2) := by decide +kernel
theorem jd_AL_addAt_38 : decode jq_AL_addAt.2.1 38 = .ok (.aload 4, 2) := by decide +kernel
theorem jd_AL_addAt_40 : decode jq_AL_addAt.2.1 40 = .ok (.iload_n 1, 1) := by decide +kernel
theorem jd_AL_addAt_41 : decode jq_AL_addAt.2.1 41 = .ok (.aload 4, 2) := by decide +kernel
theorem jd_AL_addAt_43 : decode jq_AL_addAt.2.1 43 = .ok (.iload_n 1, 1) := by decide +kernel
theorem jd_AL_addAt_44 : decode jq_AL_addAt.2.1 44 = .ok (.iconst 1, 1) := by decide +kernel
theorem jd_AL_addAt_45 : decode jq_AL_addAt.2.1 45 = .ok (.iadd, 1) := by decide +kernel
theorem jd_AL_addAt_46 : decode jq_AL_addAt.2.1 46 = .ok (.iload_n 3, 1) := by decide +kernel
theorem jd_AL_addAt_47 : decode jq_AL_addAt.2.1 47 = .ok (.iload_n 1, 1) := by decide +kernel
theorem jd_AL_addAt_48 : decode jq_AL_addAt.2.1 48 = .ok (.isub, 1) := by decide +kernel
theorem jd_AL_addAt_49 : decode jq_AL_addAt.2.1 49 = .ok (.invokestatic 112, 3) := by decide +kernel
theorem jd_AL_addAt_52 : decode jq_AL_addAt.2.1 52 = .ok (.aload 4, 2) := by decide +kernel
theorem jd_AL_addAt_54 : decode jq_AL_addAt.2.1 54 = .ok (.iload_n 1, 1) := by decide +kernel
theorem jd_AL_addAt_55 : decode jq_AL_addAt.2.1 55 = .ok (.aload_n 2, 1) := by decide +kernel
theorem jd_AL_addAt_56 : decode jq_AL_addAt.2.1 56 = .ok (.aastore, 1) := by decide +kernel
theorem jd_AL_addAt_57 : decode jq_AL_addAt.2.1 57 = .ok (.aload_n 0, 1) := by decide +kernel
theorem jd_AL_addAt_58 : decode jq_AL_addAt.2.1 58 = .ok (.iload_n 3, 1) := by decide +kernel
theorem jd_AL_addAt_59 : decode jq_AL_addAt.2.1 59 = .ok (.iconst 1, 1) := by decide +kernel
theorem jd_AL_addAt_60 : decode jq_AL_addAt.2.1 60 = .ok (.iadd, 1) := by decide +kernel
theorem jd_AL_addAt_61 : decode jq_AL_addAt.2.1 61 = .ok (.putfield 48, 3) := by decide +kernel
theorem jd_AL_addAt_64 : decode jq_AL_addAt.2.1 64 = .ok (.return_, 1) := by decide +kernel
theorem jd_Sh_use_0 : decode jq_Sh_use.2.1 0 = .ok (.iconst 0, 1) := by decide +kernel
theorem jd_Sh_use_1 : decode jq_Sh_use.2.1 1 = .ok (.istore_n 2, 1) := by decide +kernel
theorem jd_Sh_use_2 : decode jq_Sh_use.2.1 2 = .ok (.aload_n 1, 1) := by decide +kernel
theorem jd_Sh_use_3 : decode jq_Sh_use.2.1 3 = .ok (.astore_n 3, 1) := by decide +kernel
theorem jd_Sh_use_4 : decode jq_Sh_use.2.1 4 = .ok (.aload_n 3, 1) := by decide +kernel
theorem jd_Sh_use_5 : decode jq_Sh_use.2.1 5 = .ok (.ifnull 28, 3) := by decide +kernel
theorem jd_Sh_use_8 : decode jq_Sh_use.2.1 8 = .ok (.aload_n 0, 1) := by decide +kernel
theorem jd_Sh_use_9 : decode jq_Sh_use.2.1 9 = .ok (.aload_n 3, 1) := by decide +kernel
theorem jd_Sh_use_10 : decode jq_Sh_use.2.1 10 = .ok (.invokevirtual 127, 3) := by decide +kernel
theorem jd_Sh_use_13 : decode jq_Sh_use.2.1 13 = .ok (.aload_n 0, 1) := by decide +kernel
theorem jd_Sh_use_14 : decode jq_Sh_use.2.1 14 = .ok (.getfield 18, 3) := by decide +kernel
theorem jd_Sh_use_17 : decode jq_Sh_use.2.1 17 = .ok (.iload_n 2, 1) := by decide +kernel
theorem jd_Sh_use_18 : decode jq_Sh_use.2.1 18 = .ok (.aload_n 3, 1) := by decide +kernel
theorem jd_Sh_use_19 : decode jq_Sh_use.2.1 19 = .ok (.invokevirtual 130, 3) := by decide +kernel
theorem jd_Sh_use_22 : decode jq_Sh_use.2.1 22 = .ok (.iinc 2 1, 3) := by decide +kernel
theorem jd_Sh_use_25 : decode jq_Sh_use.2.1 25 = .ok (.aload_n 3, 1) := by decide +kernel
theorem jd_Sh_use_26 : decode jq_Sh_use.2.1 26 = .ok (.getfield 133, 3) := by decide +kernel
theorem jd_Sh_use_29 : decode jq_Sh_use.2.1 29 = .ok (.astore_n 3, 1) := by decide +kernel
theorem jd_Sh_use_30 : decode jq_Sh_use.2.1 30 = .ok (.goto (-26), 3) := by decide +kernel
theorem jd_Sh_use_33 : decode jq_Sh_use.2.1 33 = .ok (.return_, 1) := by decide +kernel
theorem jd_Sh_putUp_0 : decode jq_Sh_putUp.2.1 0 = .ok (.aload_n 0, 1) := by decide +kernel
theorem jd_Sh_putUp_1 : decode jq_Sh_putUp.2.1 1 = .ok (.getfield 18, 3) := by decide +kernel
theorem jd_Sh_putUp_4 : decode jq_Sh_putUp.2.1 4 = .ok (.invokevirtual 33, 3) := by decide +kernel
theorem jd_Sh_putUp_7 : decode jq_Sh_putUp.2.1 7 = .ok (.aload_n 0, 1) := by decide +kernel
theorem jd_Sh_putUp_8 : decode jq_Sh_putUp.2.1 8 = .ok (.getfield 21, 3) := by decide +kernel
theorem jd_Sh_putUp_11 : decode jq_Sh_putUp.2.1 11 = .ok (.if_icmp .lt 8, 3) := by decide +kernel
theorem jd_Sh_putUp_14 : decode jq_Sh_putUp.2.1 14 = .ok (.aload_n 0, 1) := by decide +kernel
theorem jd_Sh_putUp_15 : decode jq_Sh_putUp.2.1 15 = .ok (.aload_n 1, 1) := by decide +kernel
theorem jd_Sh_putUp_16 : decode jq_Sh_putUp.2.1 16 = .ok (.invokevirtual 103, 3) := by decide +kernel
theorem jd_Sh_putUp_19 : decode jq_Sh_putUp.2.1 19 = .ok (.aload_n 1, 1) := by decide +kernel
theorem jd_Sh_putUp_20 : decode jq_Sh_putUp.2.1 20 = .ok (.iconst 1, 1) := by decide +kernel
theorem jd_Sh_putUp_21 : decode jq_Sh_putUp.2.1 21 = .ok (.putfield 106, 3) := by decide +kernel
theorem jd_Sh_putUp_24 : decode jq_Sh_putUp.2.1 24 = .ok (.aload_n 0, 1) := by decide +kernel
theorem jd_Sh_putUp_25 : decode jq_Sh_putUp.2.1 25 = .ok (.aload_n 1, 1) := by decide +kernel
theorem jd_Sh_putUp_26 : decode jq_Sh_putUp.2.1 26 = .ok (.invokevirtual 58, 3) := by decide +kernel
theorem jd_Sh_putUp_29 : decode jq_Sh_putUp.2.1 29 = .ok (.aload_n 0, 1) := by decide +kernel
theorem jd_Sh_putUp_30 : decode jq_Sh_putUp.2.1 30 = .ok (.getfield 29, 3) := by decide +kernel
theorem jd_Sh_putUp_33 : decode jq_Sh_putUp.2.1 33 = .ok (.iconst 2, 1) := by decide +kernel
theorem jd_Sh_putUp_34 : decode jq_Sh_putUp.2.1 34 = .ok (.aload_n 1, 1) := by decide +kernel
theorem jd_Sh_putUp_35 : decode jq_Sh_putUp.2.1 35 = .ok (.getfield 51, 3) := by decide +kernel
theorem jd_Sh_putUp_38 : decode jq_Sh_putUp.2.1 38 = .ok (.invokevirtual 110, 3) := by decide +kernel
theorem jd_Sh_putUp_41 : decode jq_Sh_putUp.2.1 41 = .ok (.return_, 1) := by decide +kernel
theorem jd_Sh_takeBack_0 : decode jq_Sh_takeBack.2.1 0 = .ok (.aload_n 0, 1) := by decide +kernel
theorem jd_Sh_takeBack_1 : decode jq_Sh_takeBack.2.1 1 = .ok (.getfield 25, 3) := by decide +kernel
theorem jd_Sh_takeBack_4 : decode jq_Sh_takeBack.2.1 4 = .ok (.aload_n 1, 1) := by decide +kernel
theorem jd_Sh_takeBack_5 : decode jq_Sh_takeBack.2.1 5 = .ok (.invokevirtual 116, 3) := by decide +kernel
theorem jd_Sh_takeBack_8 : decode jq_Sh_takeBack.2.1 8 = .ok (.aload_n 1, 1) := by decide +kernel
theorem jd_Sh_takeBack_9 : decode jq_Sh_takeBack.2.1 9 = .ok (.getfield 43, 3) := by decide +kernel
theorem jd_Sh_takeBack_12 : decode jq_Sh_takeBack.2.1 12 = .ok (.dup, 1) := by decide +kernel
theorem jd_Sh_takeBack_13 : decode jq_Sh_takeBack.2.1 13 = .ok (.getfield 62, 3) := by decide +kernel
theorem jd_Sh_takeBack_16 : decode jq_Sh_takeBack.2.1 16 = .ok (.iconst 1, 1) := by decide +kernel
theorem jd_Sh_takeBack_17 : decode jq_Sh_takeBack.2.1 17 = .ok (.iadd, 1) := by decide +kernel
theorem jd_Sh_takeBack_18 : decode jq_Sh_takeBack.2.1 18 = .ok (.putfield 62, 3) := by decide +kernel
theorem jd_Sh_takeBack_21 : decode jq_Sh_takeBack.2.1 21 = .ok (.aload_n 0, 1) := by decide +kernel
theorem jd_Sh_takeBack_22 : decode jq_Sh_takeBack.2.1 22 = .ok (.getfield 29, 3) := by decide +kernel
theorem jd_Sh_takeBack_25 : decode jq_Sh_takeBack.2.1 25 = .ok (.iconst 3, 1) := by decide +kernel
theorem jd_Sh_takeBack_26 : decode jq_Sh_takeBack.2.1 26 = .ok (.aload_n 1, 1) := by decide +kernel
theorem jd_Sh_takeBack_27 : decode jq_Sh_takeBack.2.1 27 = .ok (.getfield 51, 3) := by decide +kernel
theorem jd_Sh_takeBack_30 : decode jq_Sh_takeBack.2.1 30 = .ok (.invokevirtual 110, 3) := by decide +kernel
theorem jd_Sh_takeBack_33 : decode jq_Sh_takeBack.2.1 33 = .ok (.return_, 1) := by decide +kernel
theorem jd_Sh_build_0 : decode jq_Sh_build.2.1 0 = .ok (.aload_n 0, 1) := by decide +kernel
theorem jd_Sh_build_1 : decode jq_Sh_build.2.1 1 = .ok (.getfield 12, 3) := by decide +kernel
theorem jd_Sh_build_4 : decode jq_Sh_build.2.1 4 = .ok (.invokevirtual 33, 3) := by decide +kernel
theorem jd_Sh_build_7 : decode jq_Sh_build.2.1 7 = .ok (.bipush 30, 2) := by decide +kernel
theorem jd_Sh_build_9 : decode jq_Sh_build.2.1 9 = .ok (.if_icmp .lt 6, 3) := by decide +kernel
theorem jd_Sh_build_12 : decode jq_Sh_build.2.1 12 = .ok (.bipush (-7), 2) := by decide +kernel
theorem jd_Sh_build_14 : decode jq_Sh_build.2.1 14 = .ok (.ireturn, 1) := by decide +kernel
theorem jd_Sh_build_15 : decode jq_Sh_build.2.1 15 = .ok (.new 41, 3) := by decide +kernel
theorem jd_Sh_build_18 : decode jq_Sh_build.2.1 18 = .ok (.dup, 1) := by decide +kernel
theorem jd_Sh_build_19 : decode jq_Sh_build.2.1 19 = .ok (.aload_n 0, 1) := by decide +kernel
theorem jd_Sh_build_20 : decode jq_Sh_build.2.1 20 = .ok (.getfield 12, 3) := by decide +kernel
theorem jd_Sh_build_23 : decode jq_Sh_build.2.1 23 = .ok (.invokevirtual 33, 3) := by decide +kernel
theorem jd_Sh_build_26 : decode jq_Sh_build.2.1 26 = .ok (.aload_n 1, 1) := by decide +kernel
theorem jd_Sh_build_27 : decode jq_Sh_build.2.1 27 = .ok (.aload_n 2, 1) := by decide +kernel
theorem jd_Sh_build_28 : decode jq_Sh_build.2.1 28 = .ok (.invokespecial 78, 3) := by decide +kernel
theorem jd_Sh_build_31 : decode jq_Sh_build.2.1 31 = .ok (.astore_n 3, 1) := by decide +kernel
theorem jd_Sh_build_32 : decode jq_Sh_build.2.1 32 = .ok (.aload_n 0, 1) := by decide +kernel
theorem jd_Sh_build_33 : decode jq_Sh_build.2.1 33 = .ok (.getfield 12, 3) := by decide +kernel
theorem jd_Sh_build_36 : decode jq_Sh_build.2.1 36 = .ok (.aload_n 3, 1) := by decide +kernel
theorem jd_Sh_build_37 : decode jq_Sh_build.2.1 37 = .ok (.invokevirtual 81, 3) := by decide +kernel
theorem jd_Sh_build_40 : decode jq_Sh_build.2.1 40 = .ok (.pop, 1) := by decide +kernel
theorem jd_Sh_build_41 : decode jq_Sh_build.2.1 41 = .ok (.iconst 0, 1) := by decide +kernel
theorem jd_Sh_build_42 : decode jq_Sh_build.2.1 42 = .ok (.istore 4, 2) := by decide +kernel
theorem jd_Sh_build_44 : decode jq_Sh_build.2.1 44 = .ok (.iload 4, 2) := by decide +kernel
theorem jd_Sh_build_46 : decode jq_Sh_build.2.1 46 = .ok (.bipush 10, 2) := by decide +kernel
theorem jd_Sh_build_48 : decode jq_Sh_build.2.1 48 = .ok (.if_icmp .ge 51, 3) := by decide +kernel
theorem jd_Sh_build_51 : decode jq_Sh_build.2.1 51 = .ok (.aload_n 1, 1) := by decide +kernel
theorem jd_Sh_build_52 : decode jq_Sh_build.2.1 52 = .ok (.getfield 85, 3) := by decide +kernel
theorem jd_Sh_build_55 : decode jq_Sh_build.2.1 55 = .ok (.iload 4, 2) := by decide +kernel
theorem jd_Sh_build_57 : decode jq_Sh_build.2.1 57 = .ok (.invokestatic 88, 3) := by decide +kernel
theorem jd_Sh_build_60 : decode jq_Sh_build.2.1 60 = .ok (.ifCond .eq 17, 3) := by decide +kernel
theorem jd_Sh_build_63 : decode jq_Sh_build.2.1 63 = .ok (.aload_n 0, 1) := by decide +kernel
theorem jd_Sh_build_64 : decode jq_Sh_build.2.1 64 = .ok (.getfield 25, 3) := by decide +kernel
theorem jd_Sh_build_67 : decode jq_Sh_build.2.1 67 = .ok (.aload_n 3, 1) := by decide +kernel
theorem jd_Sh_build_68 : decode jq_Sh_build.2.1 68 = .ok (.iload 4, 2) := by decide +kernel
theorem jd_Sh_build_70 : decode jq_Sh_build.2.1 70 = .ok (.iconst 0, 1) := by decide +kernel
theorem jd_Sh_build_71 : decode jq_Sh_build.2.1 71 = .ok (.invokevirtual 91, 3) := by decide +kernel
theorem jd_Sh_build_74 : decode jq_Sh_build.2.1 74 = .ok (.goto 4, 3) := by decide +kernel
theorem jd_Sh_build_77 : decode jq_Sh_build.2.1 77 = .ok (.iconst 0, 1) := by decide +kernel
theorem jd_Sh_build_78 : decode jq_Sh_build.2.1 78 = .ok (.istore 5, 2) := by decide +kernel
theorem jd_Sh_build_80 : decode jq_Sh_build.2.1 80 = .ok (.iload 5, 2) := by decide +kernel
theorem jd_Sh_build_82 : decode jq_Sh_build.2.1 82 = .ok (.ifCond .ge 11, 3) := by decide +kernel
theorem jd_Sh_build_85 : decode jq_Sh_build.2.1 85 = .ok (.aload_n 0, 1) := by decide +kernel
theorem jd_Sh_build_86 : decode jq_Sh_build.2.1 86 = .ok (.aload_n 3, 1) := by decide +kernel
theorem jd_Sh_build_87 : decode jq_Sh_build.2.1 87 = .ok (.invokevirtual 97, 3) := by decide +kernel
theorem jd_Sh_build_90 : decode jq_Sh_build.2.1 90 = .ok (.iload 5, 2) := by decide +kernel
theorem jd_Sh_build_92 : decode jq_Sh_build.2.1 92 = .ok (.ireturn, 1) := by decide +kernel
theorem jd_Sh_build_93 : decode jq_Sh_build.2.1 93 = .ok (.iinc 4 1, 3) := by decide +kernel
theorem jd_Sh_build_96 : decode jq_Sh_build.2.1 96 = .ok (.goto (-52), 3) := by decide +kernel
theorem jd_Sh_build_99 : decode jq_Sh_build.2.1 99 = .ok (.aload_n 0, 1) := by decide +kernel
theorem jd_Sh_build_100 : decode jq_Sh_build.2.1 100 = .ok (.aload_n 3, 1) := by decide +kernel
theorem jd_Sh_build_101 : decode jq_Sh_build.2.1 101 = .ok (.invokevirtual 100, 3) := by decide +kernel
theorem jd_Sh_build_104 : decode jq_Sh_build.2.1 104 = .ok (.aload_n 3, 1) := by decide +kernel
theorem jd_Sh_build_105 : decode jq_Sh_build.2.1 105 = .ok (.getfield 51, 3) := by decide +kernel
theorem jd_Sh_build_108 : decode jq_Sh_build.2.1 108 = .ok (.ireturn, 1) := by decide +kernel
theorem jd_Sh_obtain_0 : decode jq_Sh_obtain.2.1 0 = .ok (.aload_n 0, 1) := by decide +kernel
theorem jd_Sh_obtain_1 : decode jq_Sh_obtain.2.1 1 = .ok (.aload_n 1, 1) := by decide +kernel
theorem jd_Sh_obtain_2 : decode jq_Sh_obtain.2.1 2 = .ok (.invokevirtual 54, 3) := by decide +kernel
theorem jd_Sh_obtain_5 : decode jq_Sh_obtain.2.1 5 = .ok (.astore_n 2, 1) := by decide +kernel
theorem jd_Sh_obtain_6 : decode jq_Sh_obtain.2.1 6 = .ok (.aload_n 2, 1) := by decide +kernel
theorem jd_Sh_obtain_7 : decode jq_Sh_obtain.2.1 7 = .ok (.ifnull 13, 3) := by decide +kernel
theorem jd_Sh_obtain_10 : decode jq_Sh_obtain.2.1 10 = .ok (.aload_n 0, 1) := by decide +kernel
theorem jd_Sh_obtain_11 : decode jq_Sh_obtain.2.1 11 = .ok (.aload_n 2, 1) := by decide +kernel
theorem jd_Sh_obtain_12 : decode jq_Sh_obtain.2.1 12 = .ok (.invokevirtual 58, 3) := by decide +kernel
theorem jd_Sh_obtain_15 : decode jq_Sh_obtain.2.1 15 = .ok (.aload_n 2, 1) := by decide +kernel
theorem jd_Sh_obtain_16 : decode jq_Sh_obtain.2.1 16 = .ok (.getfield 51, 3) := by decide +kernel
theorem jd_Sh_obtain_19 : decode jq_Sh_obtain.2.1 19 = .ok (.ireturn, 1) := by decide +kernel
theorem jd_Sh_obtain_20 : decode jq_Sh_obtain.2.1 20 = .ok (.aload_n 1, 1) := by decide +kernel
theorem jd_Sh_obtain_21 : decode jq_Sh_obtain.2.1 21 = .ok (.getfield 62, 3) := by decide +kernel
theorem jd_Sh_obtain_24 : decode jq_Sh_obtain.2.1 24 = .ok (.iconst 2, 1) := by decide +kernel
theorem jd_Sh_obtain_25 : decode jq_Sh_obtain.2.1 25 = .ok (.if_icmp .lt 6, 3) := by decide +kernel
theorem jd_Sh_obtain_28 : decode jq_Sh_obtain.2.1 28 = .ok (.bipush (-8), 2) := by decide +kernel
theorem jd_Sh_obtain_30 : decode jq_Sh_obtain.2.1 30 = .ok (.ireturn, 1) := by decide +kernel
theorem jd_Sh_obtain_31 : decode jq_Sh_obtain.2.1 31 = .ok (.aload_n 1, 1) := by decide +kernel
theorem jd_Sh_obtain_32 : decode jq_Sh_obtain.2.1 32 = .ok (.getfield 67, 3) := by decide +kernel
theorem jd_Sh_obtain_35 : decode jq_Sh_obtain.2.1 35 = .ok (.ifnonnull 10, 3) := by decide +kernel
theorem jd_Sh_obtain_38 : decode jq_Sh_obtain.2.1 38 = .ok (.aload_n 0, 1) := by decide +kernel
theorem jd_Sh_obtain_39 : decode jq_Sh_obtain.2.1 39 = .ok (.aload_n 1, 1) := by decide +kernel
theorem jd_Sh_obtain_40 : decode jq_Sh_obtain.2.1 40 = .ok (.aconst_null, 1) := by decide +kernel
theorem jd_Sh_obtain_41 : decode jq_Sh_obtain.2.1 41 = .ok (.invokevirtual 70, 3) := by decide +kernel
theorem jd_Sh_obtain_44 : decode jq_Sh_obtain.2.1 44 = .ok (.ireturn, 1) := by decide +kernel
theorem jd_Sh_obtain_45 : decode jq_Sh_obtain.2.1 45 = .ok (.aload_n 0, 1) := by decide +kernel
theorem jd_Sh_obtain_46 : decode jq_Sh_obtain.2.1 46 = .ok (.aload_n 1, 1) := by decide +kernel
theorem jd_Sh_obtain_47 : decode jq_Sh_obtain.2.1 47 = .ok (.getfield 67, 3) := by decide +kernel
theorem jd_Sh_obtain_50 : decode jq_Sh_obtain.2.1 50 = .ok (.invokevirtual 74, 3) := by decide +kernel
theorem jd_Sh_obtain_53 : decode jq_Sh_obtain.2.1 53 = .ok (.istore_n 3, 1) := by decide +kernel
theorem jd_Sh_obtain_54 : decode jq_Sh_obtain.2.1 54 = .ok (.iload_n 3, 1) := by decide +kernel
theorem jd_Sh_obtain_55 : decode jq_Sh_obtain.2.1 55 = .ok (.ifCond .ge 7, 3) := by decide +kernel
theorem jd_Sh_obtain_58 : decode jq_Sh_obtain.2.1 58 = .ok (.iload_n 3, 1) := by decide +kernel
theorem jd_Sh_obtain_59 : decode jq_Sh_obtain.2.1 59 = .ok (.goto 19, 3) := by decide +kernel
theorem jd_Sh_obtain_62 : decode jq_Sh_obtain.2.1 62 = .ok (.aload_n 0, 1) := by decide +kernel
theorem jd_Sh_obtain_63 : decode jq_Sh_obtain.2.1 63 = .ok (.aload_n 1, 1) := by decide +kernel
theorem jd_Sh_obtain_64 : decode jq_Sh_obtain.2.1 64 = .ok (.aload_n 0, 1) := by decide +kernel
theorem jd_Sh_obtain_65 : decode jq_Sh_obtain.2.1 65 = .ok (.getfield 12, 3) := by decide +kernel
theorem jd_Sh_obtain_68 : decode jq_Sh_obtain.2.1 68 = .ok (.iload_n 3, 1) := by decide +kernel
theorem jd_Sh_obtain_69 : decode jq_Sh_obtain.2.1 69 = .ok (.invokevirtual 37, 3) := by decide +kernel
theorem jd_Sh_obtain_72 : decode jq_Sh_obtain.2.1 72 = .ok (.checkcast 41, 3) := by decide +kernel
theorem jd_Sh_obtain_75 : decode jq_Sh_obtain.2.1 75 = .ok (.invokevirtual 70, 3) := by decide +kernel
theorem jd_Sh_obtain_78 : decode jq_Sh_obtain.2.1 78 = .ok (.ireturn, 1) := by decide +kernel
theorem jd_Bc_request_0 : decode jq_Bc_request.2.1 0 = .ok (.aload_n 0, 1) := by decide +kernel
theorem jd_Bc_request_1 : decode jq_Bc_request.2.1 1 = .ok (.getfield 139, 3) := by decide +kernel
theorem jd_Bc_request_4 : decode jq_Bc_request.2.1 4 = .ok (.ifCond .ne 11, 3) := by decide +kernel
theorem jd_Bc_request_7 : decode jq_Bc_request.2.1 7 = .ok (.aload_n 0, 1) := by decide +kernel
theorem jd_Bc_request_8 : decode jq_Bc_request.2.1 8 = .ok (.iload_n 1, 1) := by decide +kernel
theorem jd_Bc_request_9 : decode jq_Bc_request.2.1 9 = .ok (.invokevirtual 112, 3) := by decide +kernel
theorem jd_Bc_request_12 : decode jq_Bc_request.2.1 12 = .ok (.ifCond .ne 5, 3) := by decide +kernel
theorem jd_Bc_request_15 : decode jq_Bc_request.2.1 15 = .ok (.iconst (-1), 1) := by decide +kernel
theorem jd_Bc_request_16 : decode jq_Bc_request.2.1 16 = .ok (.ireturn, 1) := by decide +kernel
theorem jd_Bc_request_17 : decode jq_Bc_request.2.1 17 = .ok (.aload_n 0, 1) := by decide +kernel
theorem jd_Bc_request_18 : decode jq_Bc_request.2.1 18 = .ok (.getfield 53, 3) := by decide +kernel
theorem jd_Bc_request_21 : decode jq_Bc_request.2.1 21 = .ok (.aload_n 0, 1) := by decide +kernel
theorem jd_Bc_request_22 : decode jq_Bc_request.2.1 22 = .ok (.getfield 19, 3) := by decide +kernel
theorem jd_Bc_request_25 : decode jq_Bc_request.2.1 25 = .ok (.iload_n 1, 1) := by decide +kernel
theorem jd_Bc_request_26 : decode jq_Bc_request.2.1 26 = .ok (.invokevirtual 115, 3) := by decide +kernel
theorem jd_Bc_request_29 : decode jq_Bc_request.2.1 29 = .ok (.checkcast 119, 3) := by decide +kernel
theorem jd_Bc_request_32 : decode jq_Bc_request.2.1 32 = .ok (.invokevirtual 143, 3) := by decide +kernel
theorem jd_Bc_request_35 : decode jq_Bc_request.2.1 35 = .ok (.ireturn, 1) := by decide +kernel
theorem jd_Be_clear_0 : decode jq_Be_clear.2.1 0 = .ok (.aload_n 0, 1) := by decide +kernel
theorem jd_Be_clear_1 : decode jq_Be_clear.2.1 1 = .ok (.iconst 0, 1) := by decide +kernel
theorem jd_Be_clear_2 : decode jq_Be_clear.2.1 2 = .ok (.putfield 31, 3) := by decide +kernel
theorem jd_Be_clear_5 : decode jq_Be_clear.2.1 5 = .ok (.aload_n 0, 1) := by decide +kernel
theorem jd_Be_clear_6 : decode jq_Be_clear.2.1 6 = .ok (.iconst 0, 1) := by decide +kernel
theorem jd_Be_clear_7 : decode jq_Be_clear.2.1 7 = .ok (.putfield 25, 3) := by decide +kernel
theorem jd_Be_clear_10 : decode jq_Be_clear.2.1 10 = .ok (.aload_n 0, 1) := by decide +kernel
theorem jd_Be_clear_11 : decode jq_Be_clear.2.1 11 = .ok (.iconst 0, 1) := by decide +kernel
theorem jd_Be_clear_12 : decode jq_Be_clear.2.1 12 = .ok (.putfield 28, 3) := by decide +kernel
theorem jd_Be_clear_15 : decode jq_Be_clear.2.1 15 = .ok (.return_, 1) := by decide +kernel
theorem jd_Wo_clearMocks_0 : decode jq_Wo_clearMocks.2.1 0 = .ok (.iconst 0, 1) := by decide +kernel
theorem jd_Wo_clearMocks_1 : decode jq_Wo_clearMocks.2.1 1 = .ok (.istore_n 2, 1) := by decide +kernel
theorem jd_Wo_clearMocks_2 : decode jq_Wo_clearMocks.2.1 2 = .ok (.iconst 0, 1) := by decide +kernel
theorem jd_Wo_clearMocks_3 : decode jq_Wo_clearMocks.2.1 3 = .ok (.istore_n 3, 1) := by decide +kernel
theorem jd_Wo_clearMocks_4 : decode jq_Wo_clearMocks.2.1 4 = .ok (.iload_n 3, 1) := by decide +kernel
theorem jd_Wo_clearMocks_5 : decode jq_Wo_clearMocks.2.1 5 = .ok (.aload_n 0, 1) := by decide +kernel
theorem jd_Wo_clearMocks_6 : decode jq_Wo_clearMocks.2.1 6 = .ok (.getfield 12, 3) := by decide +kernel
theorem jd_Wo_clearMocks_9 : decode jq_Wo_clearMocks.2.1 9 = .ok (.invokevirtual 100, 3) := by decide +kernel
theorem jd_Wo_clearMocks_12 : decode jq_Wo_clearMocks.2.1 12 = .ok (.if_icmp .ge 59, 3) := by decide +kernel
theorem jd_Wo_clearMocks_15 : decode jq_Wo_clearMocks.2.1 15 = .ok (.aload_n 0, 1) := by decide +kernel
theorem jd_Wo_clearMocks_16 : decode jq_Wo_clearMocks.2.1 16 = .ok (.getfield 12, 3) := by decide +kernel
theorem jd_Wo_clearMocks_19 : decode jq_Wo_clearMocks.2.1 19 = .ok (.iload_n 3, 1) := by decide +kernel
theorem jd_Wo_clearMocks_20 : decode jq_Wo_clearMocks.2.1 20 = .ok (.invokevirtual 103, 3) := by decide +kernel
theorem jd_Wo_clearMocks_23 : decode jq_Wo_clearMocks.2.1 23 = .ok (.checkcast 76, 3) := by decide +kernel
theorem jd_Wo_clearMocks_26 : decode jq_Wo_clearMocks.2.1 26 = .ok (.astore 4, 2) := by decide +kernel
theorem jd_Wo_clearMocks_28 : decode jq_Wo_clearMocks.2.1 28 = .ok (.aload 4, 2) := by decide +kernel
theorem jd_Wo_clearMocks_30 : decode jq_Wo_clearMocks.2.1 30 = .ok (.getfield 141, 3) := by decide +kernel
theorem jd_Wo_clearMocks_33 : decode jq_Wo_clearMocks.2.1 33 = .ok (.ifCond .eq 32, 3) := by decide +kernel
theorem jd_Wo_clearMocks_36 : decode jq_Wo_clearMocks.2.1 36 = .ok (.aload 4, 2) := by decide +kernel
theorem jd_Wo_clearMocks_38 : decode jq_Wo_clearMocks.2.1 38 = .ok (.getfield 118, 3) := by decide +kernel
theorem jd_Wo_clearMocks_41 : decode jq_Wo_clearMocks.2.1 41 = .ok (.aload_n 1, 1) := by decide +kernel
theorem jd_Wo_clearMocks_42 : decode jq_Wo_clearMocks.2.1 42 = .ok (.if_acmp .eq 15, 3) := by decide +kernel
theorem jd_Wo_clearMocks_45 : decode jq_Wo_clearMocks.2.1 45 = .ok (.aload_n 1, 1) := by decide +kernel
theorem jd_Wo_clearMocks_46 : decode jq_Wo_clearMocks.2.1 46 = .ok (.aload 4, 2) := by decide +kernel
theorem jd_Wo_clearMocks_48 : decode jq_Wo_clearMocks.2.1 48 = .ok (.getfield 118, 3) := by decide +kernel
theorem jd_Wo_clearMocks_51 : decode jq_Wo_clearMocks.2.1 51 = .ok (.invokevirtual 151, 3) := by decide +kernel
theorem jd_Wo_clearMocks_54 : decode jq_Wo_clearMocks.2.1 54 = .ok (.ifCond .eq 11, 3) := by decide +kernel
theorem jd_Wo_clearMocks_57 : decode jq_Wo_clearMocks.2.1 57 = .ok (.aload 4, 2) := by decide +kernel
theorem jd_Wo_clearMocks_59 : decode jq_Wo_clearMocks.2.1 59 = .ok (.invokevirtual 155, 3) := by decide +kernel
theorem jd_Wo_clearMocks_62 : decode jq_Wo_clearMocks.2.1 62 = .ok (.iinc 2 1, 3) := by decide +kernel
theorem jd_Wo_clearMocks_65 : decode jq_Wo_clearMocks.2.1 65 = .ok (.iinc 3 1, 3) := by decide +kernel
theorem jd_Wo_clearMocks_68 : decode jq_Wo_clearMocks.2.1 68 = .ok (.goto (-64), 3) := by decide +kernel
theorem jd_Wo_clearMocks_71 : decode jq_Wo_clearMocks.2.1 71 = .ok (.iload_n 2, 1) := by decide +kernel
theorem jd_Wo_clearMocks_72 : decode jq_Wo_clearMocks.2.1 72 = .ok (.ireturn, 1) := by decide +kernel
theorem jd_Bc_reset_0 : decode jq_Bc_reset.2.1 0 = .ok (.aload_n 0, 1) := by decide +kernel
theorem jd_Bc_reset_1 : decode jq_Bc_reset.2.1 1 = .ok (.iload_n 1, 1) := by decide +kernel
theorem jd_Bc_reset_2 : decode jq_Bc_reset.2.1 2 = .ok (.invokevirtual 147, 3) := by decide +kernel
theorem jd_Bc_reset_5 : decode jq_Bc_reset.2.1 5 = .ok (.astore_n 2, 1) := by decide +kernel
theorem jd_Bc_reset_6 : decode jq_Bc_reset.2.1 6 = .ok (.aload_n 2, 1) := by decide +kernel
theorem jd_Bc_reset_7 : decode jq_Bc_reset.2.1 7 = .ok (.ifnonnull 7, 3) := by decide +kernel
theorem jd_Bc_reset_10 : decode jq_Bc_reset.2.1 10 = .ok (.iconst (-1), 1) := by decide +kernel
theorem jd_Bc_reset_11 : decode jq_Bc_reset.2.1 11 = .ok (.goto 11, 3) := by decide +kernel
theorem jd_Bc_reset_14 : decode jq_Bc_reset.2.1 14 = .ok (.aload_n 0, 1) := by decide +kernel
theorem jd_Bc_reset_15 : decode jq_Bc_reset.2.1 15 = .ok (.getfield 35, 3) := by decide +kernel
theorem jd_Bc_reset_18 : decode jq_Bc_reset.2.1 18 = .ok (.aload_n 2, 1) := by decide +kernel
theorem jd_Bc_reset_19 : decode jq_Bc_reset.2.1 19 = .ok (.invokevirtual 186, 3) := by decide +kernel
theorem jd_Bc_reset_22 : decode jq_Bc_reset.2.1 22 = .ok (.ireturn, 1) := by decide +kernel
theorem jd_Sh_closeAll_0 : decode jq_Sh_closeAll.2.1 0 = .ok (.iconst 0, 1) := by decide +kernel
theorem jd_Sh_closeAll_1 : decode jq_Sh_closeAll.2.1 1 = .ok (.istore_n 1, 1) := by decide +kernel
theorem jd_Sh_closeAll_2 : decode jq_Sh_closeAll.2.1 2 = .ok (.aload_n 0, 1) := by decide +kernel
theorem jd_Sh_closeAll_3 : decode jq_Sh_closeAll.2.1 3 = .ok (.getfield 12, 3) := by decide +kernel
theorem jd_Sh_closeAll_6 : decode jq_Sh_closeAll.2.1 6 = .ok (.invokevirtual 33, 3) := by decide +kernel
theorem jd_Sh_closeAll_9 : decode jq_Sh_closeAll.2.1 9 = .ok (.iconst 1, 1) := by decide +kernel
theorem jd_Sh_closeAll_10 : decode jq_Sh_closeAll.2.1 10 = .ok (.isub, 1) := by decide +kernel
theorem jd_Sh_closeAll_11 : decode jq_Sh_closeAll.2.1 11 = .ok (.istore_n 2, 1) := by decide +kernel
theorem jd_Sh_closeAll_12 : decode jq_Sh_closeAll.2.1 12 = .ok (.iload_n 2, 1) := by decide +kernel
theorem jd_Sh_closeAll_13 : decode jq_Sh_closeAll.2.1 13 = .ok (.ifCond .lt 36, 3) := by decide +kernel
theorem jd_Sh_closeAll_16 : decode jq_Sh_closeAll.2.1 16 = .ok (.aload_n 0, 1) := by decide +kernel
theorem jd_Sh_closeAll_17 : decode jq_Sh_closeAll.2.1 17 = .ok (.getfield 12, 3) := by decide +kernel
theorem jd_Sh_closeAll_20 : decode jq_Sh_closeAll.2.1 20 = .ok (.iload_n 2, 1) := by decide +kernel
theorem jd_Sh_closeAll_21 : decode jq_Sh_closeAll.2.1 21 = .ok (.invokevirtual 37, 3) := by decide +kernel
theorem jd_Sh_closeAll_24 : decode jq_Sh_closeAll.2.1 24 = .ok (.checkcast 41, 3) := by decide +kernel
theorem jd_Sh_closeAll_27 : decode jq_Sh_closeAll.2.1 27 = .ok (.astore_n 3, 1) := by decide +kernel
theorem jd_Sh_closeAll_28 : decode jq_Sh_closeAll.2.1 28 = .ok (.aload_n 3, 1) := by decide +kernel
theorem jd_Sh_closeAll_29 : decode jq_Sh_closeAll.2.1 29 = .ok (.getfield 106, 3) := by decide +kernel
theorem jd_Sh_closeAll_32 : decode jq_Sh_closeAll.2.1 32 = .ok (.ifCond .eq 11, 3) := by decide +kernel
theorem jd_Sh_closeAll_35 : decode jq_Sh_closeAll.2.1 35 = .ok (.iload_n 1, 1) := by decide +kernel
theorem jd_Sh_closeAll_36 : decode jq_Sh_closeAll.2.1 36 = .ok (.aload_n 0, 1) := by decide +kernel
theorem jd_Sh_closeAll_37 : decode jq_Sh_closeAll.2.1 37 = .ok (.aload_n 3, 1) := by decide +kernel
theorem jd_Sh_closeAll_38 : decode jq_Sh_closeAll.2.1 38 = .ok (.invokevirtual 123, 3) := by decide +kernel
theorem jd_Sh_closeAll_41 : decode jq_Sh_closeAll.2.1 41 = .ok (.iadd, 1) := by decide +kernel
theorem jd_Sh_closeAll_42 : decode jq_Sh_closeAll.2.1 42 = .ok (.istore_n 1, 1) := by decide +kernel
theorem jd_Sh_closeAll_43 : decode jq_Sh_closeAll.2.1 43 = .ok (.iinc 2 (-1), 3) := by decide +kernel
theorem jd_Sh_closeAll_46 : decode jq_Sh_closeAll.2.1 46 = .ok (.goto (-34), 3) := by decide +kernel
theorem jd_Sh_closeAll_49 : decode jq_Sh_closeAll.2.1 49 = .ok (.iload_n 1, 1) := by decide +kernel
theorem jd_Sh_closeAll_50 : decode jq_Sh_closeAll.2.1 50 = .ok (.ireturn, 1) := by decide +kernel
theorem jd_Bc_shutdown_0 : decode jq_Bc_shutdown.2.1 0 = .ok (.aload_n 0, 1) := by decide +kernel
theorem jd_Bc_shutdown_1 : decode jq_Bc_shutdown.2.1 1 = .ok (.iconst 1, 1) := by decide +kernel
theorem jd_Bc_shutdown_2 : decode jq_Bc_shutdown.2.1 2 = .ok (.putfield 139, 3) := by decide +kernel
theorem jd_Bc_shutdown_5 : decode jq_Bc_shutdown.2.1 5 = .ok (.aload_n 0, 1) := by decide +kernel
theorem jd_Bc_shutdown_6 : decode jq_Bc_shutdown.2.1 6 = .ok (.getfield 53, 3) := by decide +kernel
theorem jd_Bc_shutdown_9 : decode jq_Bc_shutdown.2.1 9 = .ok (.invokevirtual 155, 3) := by decide +kernel
theorem jd_Bc_shutdown_12 : decode jq_Bc_shutdown.2.1 12 = .ok (.ireturn, 1) := by decide +kernel
theorem jd_Bc_stub_0 : decode jq_Bc_stub.2.1 0 = .ok (.aload_n 0, 1) := by decide +kernel
theorem jd_Bc_stub_1 : decode jq_Bc_stub.2.1 1 = .ok (.getfield 35, 3) := by decide +kernel
theorem jd_Bc_stub_4 : decode jq_Bc_stub.2.1 4 = .ok (.iload_n 1, 1) := by decide +kernel
theorem jd_Bc_stub_5 : decode jq_Bc_stub.2.1 5 = .ok (.invokevirtual 172, 3) := by decide +kernel
theorem jd_Bc_stub_8 : decode jq_Bc_stub.2.1 8 = .ok (.astore_n 3, 1) := by decide +kernel
theorem jd_Bc_stub_9 : decode jq_Bc_stub.2.1 9 = .ok (.aload_n 3, 1) := by decide +kernel
theorem jd_Bc_stub_10 : decode jq_Bc_stub.2.1 10 = .ok (.ifnonnull 5, 3) := by decide +kernel
theorem jd_Bc_stub_13 : decode jq_Bc_stub.2.1 13 = .ok (.iconst 0, 1) := by decide +kernel
theorem jd_Bc_stub_14 : decode jq_Bc_stub.2.1 14 = .ok (.ireturn, 1) := by decide +kernel
theorem jd_Bc_stub_15 : decode jq_Bc_stub.2.1 15 = .ok (.aload_n 3, 1) := by decide +kernel
theorem jd_Bc_stub_16 : decode jq_Bc_stub.2.1 16 = .ok (.iload_n 2, 1) := by decide +kernel
theorem jd_Bc_stub_17 : decode jq_Bc_stub.2.1 17 = .ok (.putfield 175, 3) := by decide +kernel
theorem jd_Bc_stub_20 : decode jq_Bc_stub.2.1 20 = .ok (.iconst 1, 1) := by decide +kernel
theorem jd_Bc_stub_21 : decode jq_Bc_stub.2.1 21 = .ok (.ireturn, 1) := by decide +kernel
theorem jd_Bc_wired_0 : decode jq_Bc_wired.2.1 0 = .ok (.aload_n 0, 1) := by decide +kernel
theorem jd_Bc_wired_1 : decode jq_Bc_wired.2.1 1 = .ok (.getfield 35, 3) := by decide +kernel
theorem jd_Bc_wired_4 : decode jq_Bc_wired.2.1 4 = .ok (.iload_n 1, 1) := by decide +kernel
theorem jd_Bc_wired_5 : decode jq_Bc_wired.2.1 5 = .ok (.invokevirtual 162, 3) := by decide +kernel
theorem jd_Bc_wired_8 : decode jq_Bc_wired.2.1 8 = .ok (.astore_n 3, 1) := by decide +kernel
theorem jd_Bc_wired_9 : decode jq_Bc_wired.2.1 9 = .ok (.aload_n 3, 1) := by decide +kernel
theorem jd_Bc_wired_10 : decode jq_Bc_wired.2.1 10 = .ok (.ifnull 15, 3) := by decide +kernel
theorem jd_Bc_wired_13 : decode jq_Bc_wired.2.1 13 = .ok (.iload_n 2, 1) := by decide +kernel
theorem jd_Bc_wired_14 : decode jq_Bc_wired.2.1 14 = .ok (.aload_n 3, 1) := by decide +kernel
theorem jd_Bc_wired_15 : decode jq_Bc_wired.2.1 15 = .ok (.getfield 189, 3) := by decide +kernel
theorem jd_Bc_wired_18 : decode jq_Bc_wired.2.1 18 = .ok (.arraylength, 1) := by decide +kernel
theorem jd_Bc_wired_19 : decode jq_Bc_wired.2.1 19 = .ok (.invokestatic 77, 3) := by decide +kernel
theorem jd_Bc_wired_22 : decode jq_Bc_wired.2.1 22 = .ok (.ifCond .ne 7, 3) := by decide +kernel
theorem jd_Bc_wired_25 : decode jq_Bc_wired.2.1 25 = .ok (.iconst (-1), 1) := by decide +kernel
theorem jd_Bc_wired_26 : decode jq_Bc_wired.2.1 26 = .ok (.goto 9, 3) := by decide +kernel
theorem jd_Bc_wired_29 : decode jq_Bc_wired.2.1 29 = .ok (.aload_n 3, 1) := by decide +kernel
