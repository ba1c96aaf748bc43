theorem dX0_useBattery_0 : decode cX0_useBattery 0 = .ok (.aload_n 1, 1) := by decide +kernel
theorem dX0_useBattery_1 : decode cX0_useBattery 1 = .ok (.getfield 65, 3) := by decide +kernel
theorem dX0_useBattery_4 : decode cX0_useBattery 4 = .ok (.astore_n 2, 1) := by decide +kernel
theorem dX0_useBattery_5 : decode cX0_useBattery 5 = .ok (.aload_n 0, 1) := by decide +kernel
theorem dX0_useBattery_6 : decode cX0_useBattery 6 = .ok (.getfield 12, 3) := by decide +kernel
theorem dX0_useBattery_9 : decode cX0_useBattery 9 = .ok (.invokevirtual 61, 3) := by decide +kernel
theorem dX0_useBattery_12 : decode cX0_useBattery 12 = .ok (.aload_n 1, 1) := by decide +kernel
theorem dX0_useBattery_13 : decode cX0_useBattery 13 = .ok (.invokestatic 83, 3) := by decide +kernel
theorem dX0_useBattery_16 : decode cX0_useBattery 16 = .ok (.invokestatic 47, 3) := by decide +kernel
theorem dX0_useBattery_19 : decode cX0_useBattery 19 = .ok (.istore_n 3, 1) := by decide +kernel
theorem dX0_useBattery_20 : decode cX0_useBattery 20 = .ok (.aload_n 0, 1) := by decide +kernel
theorem dX0_useBattery_21 : decode cX0_useBattery 21 = .ok (.getfield 18, 3) := by decide +kernel
theorem dX0_useBattery_24 : decode cX0_useBattery 24 = .ok (.invokevirtual 61, 3) := by decide +kernel
theorem dX0_useBattery_27 : decode cX0_useBattery 27 = .ok (.aload_n 2, 1) := by decide +kernel
theorem dX0_useBattery_28 : decode cX0_useBattery 28 = .ok (.getfield 87, 3) := by decide +kernel
theorem dX0_useBattery_31 : decode cX0_useBattery 31 = .ok (.aload_n 1, 1) := by decide +kernel
theorem dX0_useBattery_32 : decode cX0_useBattery 32 = .ok (.getfield 90, 3) := by decide +kernel
theorem dX0_useBattery_35 : decode cX0_useBattery 35 = .ok (.invokestatic 47, 3) := by decide +kernel
theorem dX0_useBattery_38 : decode cX0_useBattery 38 = .ok (.invokestatic 47, 3) := by decide +kernel
theorem dX0_useBattery_41 : decode cX0_useBattery 41 = .ok (.istore 4, 2) := by decide +kernel
theorem dX0_useBattery_43 : decode cX0_useBattery 43 = .ok (.aload_n 0, 1) := by decide +kernel
theorem dX0_useBattery_44 : decode cX0_useBattery 44 = .ok (.getfield 12, 3) := by decide +kernel
theorem dX0_useBattery_47 : decode cX0_useBattery 47 = .ok (.iload_n 3, 1) := by decide +kernel
theorem dX0_useBattery_48 : decode cX0_useBattery 48 = .ok (.iconst 2, 1) := by decide +kernel
theorem dX0_useBattery_49 : decode cX0_useBattery 49 = .ok (.aload_n 2, 1) := by decide +kernel
theorem dX0_useBattery_50 : decode cX0_useBattery 50 = .ok (.invokevirtual 69, 3) := by decide +kernel
theorem dX0_useBattery_53 : decode cX0_useBattery 53 = .ok (.aload_n 0, 1) := by decide +kernel
theorem dX0_useBattery_54 : decode cX0_useBattery 54 = .ok (.getfield 18, 3) := by decide +kernel
theorem dX0_useBattery_57 : decode cX0_useBattery 57 = .ok (.iload 4, 2) := by decide +kernel
theorem dX0_useBattery_59 : decode cX0_useBattery 59 = .ok (.aload_n 2, 1) := by decide +kernel
theorem dX0_useBattery_60 : decode cX0_useBattery 60 = .ok (.getfield 73, 3) := by decide +kernel
theorem dX0_useBattery_63 : decode cX0_useBattery 63 = .ok (.aload_n 2, 1) := by decide +kernel
theorem dX0_useBattery_64 : decode cX0_useBattery 64 = .ok (.invokevirtual 69, 3) := by decide +kernel
theorem dX0_useBattery_67 : decode cX0_useBattery 67 = .ok (.aload_n 0, 1) := by decide +kernel
theorem dX0_useBattery_68 : decode cX0_useBattery 68 = .ok (.aload_n 1, 1) := by decide +kernel
theorem dX0_useBattery_69 : decode cX0_useBattery 69 = .ok (.iconst 5, 1) := by decide +kernel
theorem dX0_useBattery_70 : decode cX0_useBattery 70 = .ok (.iconst 2, 1) := by decide +kernel
theorem dX0_useBattery_71 : decode cX0_useBattery 71 = .ok (.invokevirtual 79, 3) := by decide +kernel
theorem dX0_useBattery_74 : decode cX0_useBattery 74 = .ok (.aload_n 1, 1) := by decide +kernel
theorem dX0_useBattery_75 : decode cX0_useBattery 75 = .ok (.aload_n 1, 1) := by decide +kernel
theorem dX0_useBattery_76 : decode cX0_useBattery 76 = .ok (.getfield 90, 3) := by decide +kernel
theorem dX0_useBattery_79 : decode cX0_useBattery 79 = .ok (.iload_n 3, 1) := by decide +kernel
theorem dX0_useBattery_80 : decode cX0_useBattery 80 = .ok (.aload_n 2, 1) := by decide +kernel
theorem dX0_useBattery_81 : decode cX0_useBattery 81 = .ok (.getfield 93, 3) := by decide +kernel
theorem dX0_useBattery_84 : decode cX0_useBattery 84 = .ok (.imul, 1) := by decide +kernel
theorem dX0_useBattery_85 : decode cX0_useBattery 85 = .ok (.bipush 100, 2) := by decide +kernel
theorem dX0_useBattery_87 : decode cX0_useBattery 87 = .ok (.idiv, 1) := by decide +kernel
theorem dX0_useBattery_88 : decode cX0_useBattery 88 = .ok (.iadd, 1) := by decide +kernel
theorem dX0_useBattery_89 : decode cX0_useBattery 89 = .ok (.iload 4, 2) := by decide +kernel
theorem dX0_useBattery_91 : decode cX0_useBattery 91 = .ok (.isub, 1) := by decide +kernel
theorem dX0_useBattery_92 : decode cX0_useBattery 92 = .ok (.putfield 96, 3) := by decide +kernel
theorem dX0_useBattery_95 : decode cX0_useBattery 95 = .ok (.return_, 1) := by decide +kernel
theorem dX0_useGrid_0 : decode cX0_useGrid 0 = .ok (.iconst 0, 1) := by decide +kernel
theorem dX0_useGrid_1 : decode cX0_useGrid 1 = .ok (.istore_n 2, 1) := by decide +kernel
theorem dX0_useGrid_2 : decode cX0_useGrid 2 = .ok (.iload_n 2, 1) := by decide +kernel
theorem dX0_useGrid_3 : decode cX0_useGrid 3 = .ok (.bipush 6, 2) := by decide +kernel
theorem dX0_useGrid_5 : decode cX0_useGrid 5 = .ok (.if_icmp .ge 50, 3) := by decide +kernel
theorem dX0_useGrid_8 : decode cX0_useGrid 8 = .ok (.aload_n 1, 1) := by decide +kernel
theorem dX0_useGrid_9 : decode cX0_useGrid 9 = .ok (.iload_n 2, 1) := by decide +kernel
theorem dX0_useGrid_10 : decode cX0_useGrid 10 = .ok (.bipush 6, 2) := by decide +kernel
theorem dX0_useGrid_12 : decode cX0_useGrid 12 = .ok (.aload_n 0, 1) := by decide +kernel
theorem dX0_useGrid_13 : decode cX0_useGrid 13 = .ok (.getfield 12, 3) := by decide +kernel
theorem dX0_useGrid_16 : decode cX0_useGrid 16 = .ok (.iload_n 2, 1) := by decide +kernel
theorem dX0_useGrid_17 : decode cX0_useGrid 17 = .ok (.invokevirtual 102, 3) := by decide +kernel
theorem dX0_useGrid_20 : decode cX0_useGrid 20 = .ok (.invokevirtual 53, 3) := by decide +kernel
theorem dX0_useGrid_23 : decode cX0_useGrid 23 = .ok (.aload_n 1, 1) := by decide +kernel
theorem dX0_useGrid_24 : decode cX0_useGrid 24 = .ok (.iload_n 2, 1) := by decide +kernel
theorem dX0_useGrid_25 : decode cX0_useGrid 25 = .ok (.iconst 3, 1) := by decide +kernel
theorem dX0_useGrid_26 : decode cX0_useGrid 26 = .ok (.aload_n 0, 1) := by decide +kernel
theorem dX0_useGrid_27 : decode cX0_useGrid 27 = .ok (.getfield 18, 3) := by decide +kernel
theorem dX0_useGrid_30 : decode cX0_useGrid 30 = .ok (.iload_n 2, 1) := by decide +kernel
theorem dX0_useGrid_31 : decode cX0_useGrid 31 = .ok (.invokevirtual 102, 3) := by decide +kernel
theorem dX0_useGrid_34 : decode cX0_useGrid 34 = .ok (.invokevirtual 53, 3) := by decide +kernel
theorem dX0_useGrid_37 : decode cX0_useGrid 37 = .ok (.aload_n 1, 1) := by decide +kernel
theorem dX0_useGrid_38 : decode cX0_useGrid 38 = .ok (.iload_n 2, 1) := by decide +kernel
theorem dX0_useGrid_39 : decode cX0_useGrid 39 = .ok (.bipush 7, 2) := by decide +kernel
theorem dX0_useGrid_41 : decode cX0_useGrid 41 = .ok (.aload_n 1, 1) := by decide +kernel
theorem dX0_useGrid_42 : decode cX0_useGrid 42 = .ok (.iload_n 2, 1) := by decide +kernel
theorem dX0_useGrid_43 : decode cX0_useGrid 43 = .ok (.invokevirtual 106, 3) := by decide +kernel
theorem dX0_useGrid_46 : decode cX0_useGrid 46 = .ok (.invokevirtual 53, 3) := by decide +kernel
theorem dX0_useGrid_49 : decode cX0_useGrid 49 = .ok (.iinc 2 1, 3) := by decide +kernel
theorem dX0_useGrid_52 : decode cX0_useGrid 52 = .ok (.goto (-50), 3) := by decide +kernel
theorem dX0_useGrid_55 : decode cX0_useGrid 55 = .ok (.return_, 1) := by decide +kernel
theorem dX0_useMembers_0 : decode cX0_useMembers 0 = .ok (.aload_n 0, 1) := by decide +kernel
theorem dX0_useMembers_1 : decode cX0_useMembers 1 = .ok (.getfield 12, 3) := by decide +kernel
theorem dX0_useMembers_4 : decode cX0_useMembers 4 = .ok (.invokevirtual 61, 3) := by decide +kernel
theorem dX0_useMembers_7 : decode cX0_useMembers 7 = .ok (.aload_n 0, 1) := by decide +kernel
theorem dX0_useMembers_8 : decode cX0_useMembers 8 = .ok (.getfield 18, 3) := by decide +kernel
theorem dX0_useMembers_11 : decode cX0_useMembers 11 = .ok (.invokevirtual 61, 3) := by decide +kernel
theorem dX0_useMembers_14 : decode cX0_useMembers 14 = .ok (.invokestatic 47, 3) := by decide +kernel
theorem dX0_useMembers_17 : decode cX0_useMembers 17 = .ok (.istore_n 2, 1) := by decide +kernel
theorem dX0_useMembers_18 : decode cX0_useMembers 18 = .ok (.aload_n 0, 1) := by decide +kernel
theorem dX0_useMembers_19 : decode cX0_useMembers 19 = .ok (.getfield 12, 3) := by decide +kernel
theorem dX0_useMembers_22 : decode cX0_useMembers 22 = .ok (.iload_n 2, 1) := by decide +kernel
theorem dX0_useMembers_23 : decode cX0_useMembers 23 = .ok (.iconst 2, 1) := by decide +kernel
theorem dX0_useMembers_24 : decode cX0_useMembers 24 = .ok (.aload_n 1, 1) := by decide +kernel
theorem dX0_useMembers_25 : decode cX0_useMembers 25 = .ok (.getfield 65, 3) := by decide +kernel
theorem dX0_useMembers_28 : decode cX0_useMembers 28 = .ok (.invokevirtual 69, 3) := by decide +kernel
theorem dX0_useMembers_31 : decode cX0_useMembers 31 = .ok (.aload_n 0, 1) := by decide +kernel
theorem dX0_useMembers_32 : decode cX0_useMembers 32 = .ok (.getfield 18, 3) := by decide +kernel
theorem dX0_useMembers_35 : decode cX0_useMembers 35 = .ok (.iload_n 2, 1) := by decide +kernel
theorem dX0_useMembers_36 : decode cX0_useMembers 36 = .ok (.aload_n 1, 1) := by decide +kernel
theorem dX0_useMembers_37 : decode cX0_useMembers 37 = .ok (.getfield 65, 3) := by decide +kernel
theorem dX0_useMembers_40 : decode cX0_useMembers 40 = .ok (.getfield 73, 3) := by decide +kernel
theorem dX0_useMembers_43 : decode cX0_useMembers 43 = .ok (.aload_n 1, 1) := by decide +kernel
theorem dX0_useMembers_44 : decode cX0_useMembers 44 = .ok (.getfield 65, 3) := by decide +kernel
theorem dX0_useMembers_47 : decode cX0_useMembers 47 = .ok (.invokevirtual 69, 3) := by decide +kernel
theorem dX0_useMembers_50 : decode cX0_useMembers 50 = .ok (.aload_n 0, 1) := by decide +kernel
theorem dX0_useMembers_51 : decode cX0_useMembers 51 = .ok (.aload_n 1, 1) := by decide +kernel
theorem dX0_useMembers_52 : decode cX0_useMembers 52 = .ok (.iconst 4, 1) := by decide +kernel
theorem dX0_useMembers_53 : decode cX0_useMembers 53 = .ok (.iconst 1, 1) := by decide +kernel
theorem dX0_useMembers_54 : decode cX0_useMembers 54 = .ok (.invokevirtual 79, 3) := by decide +kernel
theorem dX0_useMembers_57 : decode cX0_useMembers 57 = .ok (.return_, 1) := by decide +kernel
theorem dX0_useOwn_0 : decode cX0_useOwn 0 = .ok (.iconst 0, 1) := by decide +kernel
theorem dX0_useOwn_1 : decode cX0_useOwn 1 = .ok (.istore_n 2, 1) := by decide +kernel
theorem dX0_useOwn_2 : decode cX0_useOwn 2 = .ok (.iload_n 2, 1) := by decide +kernel
theorem dX0_useOwn_3 : decode cX0_useOwn 3 = .ok (.bipush 6, 2) := by decide +kernel
theorem dX0_useOwn_5 : decode cX0_useOwn 5 = .ok (.if_icmp .ge 69, 3) := by decide +kernel
theorem dX0_useOwn_8 : decode cX0_useOwn 8 = .ok (.aload_n 1, 1) := by decide +kernel
theorem dX0_useOwn_9 : decode cX0_useOwn 9 = .ok (.getfield 34, 3) := by decide +kernel
theorem dX0_useOwn_12 : decode cX0_useOwn 12 = .ok (.iload_n 2, 1) := by decide +kernel
theorem dX0_useOwn_13 : decode cX0_useOwn 13 = .ok (.invokestatic 40, 3) := by decide +kernel
theorem dX0_useOwn_16 : decode cX0_useOwn 16 = .ok (.istore_n 3, 1) := by decide +kernel
theorem dX0_useOwn_17 : decode cX0_useOwn 17 = .ok (.aload_n 1, 1) := by decide +kernel
theorem dX0_useOwn_18 : decode cX0_useOwn 18 = .ok (.getfield 44, 3) := by decide +kernel
theorem dX0_useOwn_21 : decode cX0_useOwn 21 = .ok (.iload_n 2, 1) := by decide +kernel
theorem dX0_useOwn_22 : decode cX0_useOwn 22 = .ok (.invokestatic 40, 3) := by decide +kernel
theorem dX0_useOwn_25 : decode cX0_useOwn 25 = .ok (.istore 4, 2) := by decide +kernel
theorem dX0_useOwn_27 : decode cX0_useOwn 27 = .ok (.iload_n 3, 1) := by decide +kernel
theorem dX0_useOwn_28 : decode cX0_useOwn 28 = .ok (.iload 4, 2) := by decide +kernel
theorem dX0_useOwn_30 : decode cX0_useOwn 30 = .ok (.invokestatic 47, 3) := by decide +kernel
theorem dX0_useOwn_33 : decode cX0_useOwn 33 = .ok (.istore 5, 2) := by decide +kernel
theorem dX0_useOwn_35 : decode cX0_useOwn 35 = .ok (.aload_n 1, 1) := by decide +kernel
theorem dX0_useOwn_36 : decode cX0_useOwn 36 = .ok (.iload_n 2, 1) := by decide +kernel
theorem dX0_useOwn_37 : decode cX0_useOwn 37 = .ok (.iconst 0, 1) := by decide +kernel
theorem dX0_useOwn_38 : decode cX0_useOwn 38 = .ok (.iload 5, 2) := by decide +kernel
theorem dX0_useOwn_40 : decode cX0_useOwn 40 = .ok (.invokevirtual 53, 3) := by decide +kernel
theorem dX0_useOwn_43 : decode cX0_useOwn 43 = .ok (.aload_n 0, 1) := by decide +kernel
theorem dX0_useOwn_44 : decode cX0_useOwn 44 = .ok (.getfield 12, 3) := by decide +kernel
theorem dX0_useOwn_47 : decode cX0_useOwn 47 = .ok (.iload_n 2, 1) := by decide +kernel
theorem dX0_useOwn_48 : decode cX0_useOwn 48 = .ok (.iload_n 3, 1) := by decide +kernel
theorem dX0_useOwn_49 : decode cX0_useOwn 49 = .ok (.iload 5, 2) := by decide +kernel
theorem dX0_useOwn_51 : decode cX0_useOwn 51 = .ok (.isub, 1) := by decide +kernel
theorem dX0_useOwn_52 : decode cX0_useOwn 52 = .ok (.invokevirtual 57, 3) := by decide +kernel
theorem dX0_useOwn_55 : decode cX0_useOwn 55 = .ok (.aload_n 0, 1) := by decide +kernel
theorem dX0_useOwn_56 : decode cX0_useOwn 56 = .ok (.getfield 18, 3) := by decide +kernel
theorem dX0_useOwn_59 : decode cX0_useOwn 59 = .ok (.iload_n 2, 1) := by decide +kernel
theorem dX0_useOwn_60 : decode cX0_useOwn 60 = .ok (.iload 4, 2) := by decide +kernel
theorem dX0_useOwn_62 : decode cX0_useOwn 62 = .ok (.iload 5, 2) := by decide +kernel
theorem dX0_useOwn_64 : decode cX0_useOwn 64 = .ok (.isub, 1) := by decide +kernel
theorem dX0_useOwn_65 : decode cX0_useOwn 65 = .ok (.invokevirtual 57, 3) := by decide +kernel
theorem dX0_useOwn_68 : decode cX0_useOwn 68 = .ok (.iinc 2 1, 3) := by decide +kernel
theorem dX0_useOwn_71 : decode cX0_useOwn 71 = .ok (.goto (-69), 3) := by decide +kernel
theorem dX0_useOwn_74 : decode cX0_useOwn 74 = .ok (.return_, 1) := by decide +kernel
theorem dX1_countSharers_0 : decode cX1_countSharers 0 = .ok (.iconst 0, 1) := by decide +kernel
theorem dX1_countSharers_1 : decode cX1_countSharers 1 = .ok (.istore_n 1, 1) := by decide +kernel
theorem dX1_countSharers_2 : decode cX1_countSharers 2 = .ok (.iconst 0, 1) := by decide +kernel
theorem dX1_countSharers_3 : decode cX1_countSharers 3 = .ok (.istore_n 2, 1) := by decide +kernel
theorem dX1_countSharers_4 : decode cX1_countSharers 4 = .ok (.iload_n 2, 1) := by decide +kernel
theorem dX1_countSharers_5 : decode cX1_countSharers 5 = .ok (.bipush 6, 2) := by decide +kernel
theorem dX1_countSharers_7 : decode cX1_countSharers 7 = .ok (.if_icmp .ge 23, 3) := by decide +kernel
theorem dX1_countSharers_10 : decode cX1_countSharers 10 = .ok (.aload_n 0, 1) := by decide +kernel
theorem dX1_countSharers_11 : decode cX1_countSharers 11 = .ok (.getfield 9, 3) := by decide +kernel
theorem dX1_countSharers_14 : decode cX1_countSharers 14 = .ok (.iload_n 2, 1) := by decide +kernel
theorem dX1_countSharers_15 : decode cX1_countSharers 15 = .ok (.invokestatic 18, 3) := by decide +kernel
theorem dX1_countSharers_18 : decode cX1_countSharers 18 = .ok (.ifCond .le 6, 3) := by decide +kernel
theorem dX1_countSharers_21 : decode cX1_countSharers 21 = .ok (.iinc 1 1, 3) := by decide +kernel
theorem dX1_countSharers_24 : decode cX1_countSharers 24 = .ok (.iinc 2 1, 3) := by decide +kernel
theorem dX1_countSharers_27 : decode cX1_countSharers 27 = .ok (.goto (-23), 3) := by decide +kernel
theorem dX1_countSharers_30 : decode cX1_countSharers 30 = .ok (.iload_n 1, 1) := by decide +kernel
theorem dX1_countSharers_31 : decode cX1_countSharers 31 = .ok (.ireturn, 1) := by decide +kernel
theorem dX1_give_0 : decode cX1_give 0 = .ok (.iload_n 1, 1) := by decide +kernel
theorem dX1_give_1 : decode cX1_give 1 = .ok (.ifCond .lt 21, 3) := by decide +kernel
theorem dX1_give_4 : decode cX1_give 4 = .ok (.iload_n 1, 1) := by decide +kernel
theorem dX1_give_5 : decode cX1_give 5 = .ok (.aload_n 0, 1) := by decide +kernel
theorem dX1_give_6 : decode cX1_give 6 = .ok (.getfield 9, 3) := by decide +kernel
theorem dX1_give_9 : decode cX1_give 9 = .ok (.arraylength, 1) := by decide +kernel
theorem dX1_give_10 : decode cX1_give 10 = .ok (.if_icmp .ge 12, 3) := by decide +kernel
theorem dX1_give_13 : decode cX1_give 13 = .ok (.iload_n 1, 1) := by decide +kernel
theorem dX1_give_14 : decode cX1_give 14 = .ok (.aload_n 0, 1) := by decide +kernel
theorem dX1_give_15 : decode cX1_give 15 = .ok (.getfield 15, 3) := by decide +kernel
theorem dX1_give_18 : decode cX1_give 18 = .ok (.arraylength, 1) := by decide +kernel
theorem dX1_give_19 : decode cX1_give 19 = .ok (.if_icmp .lt 4, 3) := by decide +kernel
theorem dX1_give_22 : decode cX1_give 22 = .ok (.return_, 1) := by decide +kernel
theorem dX1_give_23 : decode cX1_give 23 = .ok (.iload_n 2, 1) := by decide +kernel
theorem dX1_give_24 : decode cX1_give 24 = .ok (.aload_n 0, 1) := by decide +kernel
theorem dX1_give_25 : decode cX1_give 25 = .ok (.getfield 9, 3) := by decide +kernel
theorem dX1_give_28 : decode cX1_give 28 = .ok (.iload_n 1, 1) := by decide +kernel
theorem dX1_give_29 : decode cX1_give 29 = .ok (.iaload, 1) := by decide +kernel
theorem dX1_give_30 : decode cX1_give 30 = .ok (.aload_n 0, 1) := by decide +kernel
theorem dX1_give_31 : decode cX1_give 31 = .ok (.getfield 26, 3) := by decide +kernel
theorem dX1_give_34 : decode cX1_give 34 = .ok (.invokestatic 82, 3) := by decide +kernel
theorem dX1_give_37 : decode cX1_give 37 = .ok (.invokestatic 82, 3) := by decide +kernel
theorem dX1_give_40 : decode cX1_give 40 = .ok (.istore_n 3, 1) := by decide +kernel
theorem dX1_give_41 : decode cX1_give 41 = .ok (.aload_n 0, 1) := by decide +kernel
theorem dX1_give_42 : decode cX1_give 42 = .ok (.getfield 9, 3) := by decide +kernel
theorem dX1_give_45 : decode cX1_give 45 = .ok (.iload_n 1, 1) := by decide +kernel
theorem dX1_give_46 : decode cX1_give 46 = .ok (.dup2, 1) := by decide +kernel
theorem dX1_give_47 : decode cX1_give 47 = .ok (.iaload, 1) := by decide +kernel
theorem dX1_give_48 : decode cX1_give 48 = .ok (.iload_n 3, 1) := by decide +kernel
theorem dX1_give_49 : decode cX1_give 49 = .ok (.isub, 1) := by decide +kernel
theorem dX1_give_50 : decode cX1_give 50 = .ok (.iastore, 1) := by decide +kernel
theorem dX1_give_51 : decode cX1_give 51 = .ok (.aload_n 0, 1) := by decide +kernel
theorem dX1_give_52 : decode cX1_give 52 = .ok (.getfield 15, 3) := by decide +kernel
theorem dX1_give_55 : decode cX1_give 55 = .ok (.iload_n 1, 1) := by decide +kernel
theorem dX1_give_56 : decode cX1_give 56 = .ok (.dup2, 1) := by decide +kernel
theorem dX1_give_57 : decode cX1_give 57 = .ok (.iaload, 1) := by decide +kernel
theorem dX1_give_58 : decode cX1_give 58 = .ok (.iload_n 3, 1) := by decide +kernel
theorem dX1_give_59 : decode cX1_give 59 = .ok (.iadd, 1) := by decide +kernel
theorem dX1_give_60 : decode cX1_give 60 = .ok (.iastore, 1) := by decide +kernel
theorem dX1_give_61 : decode cX1_give 61 = .ok (.aload_n 0, 1) := by decide +kernel
theorem dX1_give_62 : decode cX1_give 62 = .ok (.dup, 1) := by decide +kernel
theorem dX1_give_63 : decode cX1_give 63 = .ok (.getfield 26, 3) := by decide +kernel
theorem dX1_give_66 : decode cX1_give 66 = .ok (.iload_n 3, 1) := by decide +kernel
theorem dX1_give_67 : decode cX1_give 67 = .ok (.isub, 1) := by decide +kernel
theorem dX1_give_68 : decode cX1_give 68 = .ok (.putfield 26, 3) := by decide +kernel
theorem dX1_give_71 : decode cX1_give 71 = .ok (.return_, 1) := by decide +kernel
theorem dX1_giveEach_0 : decode cX1_giveEach 0 = .ok (.iconst 0, 1) := by decide +kernel
theorem dX1_giveEach_1 : decode cX1_giveEach 1 = .ok (.istore_n 2, 1) := by decide +kernel
theorem dX1_giveEach_2 : decode cX1_giveEach 2 = .ok (.iload_n 2, 1) := by decide +kernel
theorem dX1_giveEach_3 : decode cX1_giveEach 3 = .ok (.bipush 6, 2) := by decide +kernel
theorem dX1_giveEach_5 : decode cX1_giveEach 5 = .ok (.if_icmp .ge 15, 3) := by decide +kernel
theorem dX1_giveEach_8 : decode cX1_giveEach 8 = .ok (.aload_n 0, 1) := by decide +kernel
theorem dX1_giveEach_9 : decode cX1_giveEach 9 = .ok (.iload_n 2, 1) := by decide +kernel
theorem dX1_giveEach_10 : decode cX1_giveEach 10 = .ok (.iload_n 1, 1) := by decide +kernel
theorem dX1_giveEach_11 : decode cX1_giveEach 11 = .ok (.invokevirtual 69, 3) := by decide +kernel
theorem dX1_giveEach_14 : decode cX1_giveEach 14 = .ok (.iinc 2 1, 3) := by decide +kernel
theorem dX1_giveEach_17 : decode cX1_giveEach 17 = .ok (.goto (-15), 3) := by decide +kernel
theorem dX1_giveEach_20 : decode cX1_giveEach 20 = .ok (.return_, 1) := by decide +kernel
theorem dX1_giveOneByShares_0 : decode cX1_giveOneByShares 0 = .ok (.iconst 0, 1) := by decide +kernel
theorem dX1_giveOneByShares_1 : decode cX1_giveOneByShares 1 = .ok (.istore_n 2, 1) := by decide +kernel
theorem dX1_giveOneByShares_2 : decode cX1_giveOneByShares 2 = .ok (.iload_n 2, 1) := by decide +kernel
theorem dX1_giveOneByShares_3 : decode cX1_giveOneByShares 3 = .ok (.bipush 6, 2) := by decide +kernel
theorem dX1_giveOneByShares_5 : decode cX1_giveOneByShares 5 = .ok (.if_icmp .ge 23, 3) := by decide +kernel
theorem dX1_giveOneByShares_8 : decode cX1_giveOneByShares 8 = .ok (.aload_n 1, 1) := by decide +kernel
theorem dX1_giveOneByShares_9 : decode cX1_giveOneByShares 9 = .ok (.iload_n 2, 1) := by decide +kernel
theorem dX1_giveOneByShares_10 : decode cX1_giveOneByShares 10 = .ok (.invokestatic 18, 3) := by decide +kernel
theorem dX1_giveOneByShares_13 : decode cX1_giveOneByShares 13 = .ok (.ifCond .le 9, 3) := by decide +kernel
theorem dX1_giveOneByShares_16 : decode cX1_giveOneByShares 16 = .ok (.aload_n 0, 1) := by decide +kernel
theorem dX1_giveOneByShares_17 : decode cX1_giveOneByShares 17 = .ok (.iload_n 2, 1) := by decide +kernel
theorem dX1_giveOneByShares_18 : decode cX1_giveOneByShares 18 = .ok (.iconst 1, 1) := by decide +kernel
theorem dX1_giveOneByShares_19 : decode cX1_giveOneByShares 19 = .ok (.invokevirtual 69, 3) := by decide +kernel
theorem dX1_giveOneByShares_22 : decode cX1_giveOneByShares 22 = .ok (.iinc 2 1, 3) := by decide +kernel
theorem dX1_giveOneByShares_25 : decode cX1_giveOneByShares 25 = .ok (.goto (-23), 3) := by decide +kernel
theorem dX1_giveOneByShares_28 : decode cX1_giveOneByShares 28 = .ok (.return_, 1) := by decide +kernel
theorem dX1_init_0 : decode cX1_init 0 = .ok (.aload_n 0, 1) := by decide +kernel
theorem dX1_init_1 : decode cX1_init 1 = .ok (.invokespecial 3, 3) := by decide +kernel
theorem dX1_init_4 : decode cX1_init 4 = .ok (.aload_n 0, 1) := by decide +kernel
theorem dX1_init_5 : decode cX1_init 5 = .ok (.bipush 6, 2) := by decide +kernel
theorem dX1_init_7 : decode cX1_init 7 = .ok (.newarray .int, 2) := by decide +kernel
theorem dX1_init_9 : decode cX1_init 9 = .ok (.putfield 9, 3) := by decide +kernel
theorem dX1_init_12 : decode cX1_init 12 = .ok (.aload_n 0, 1) := by decide +kernel
theorem dX1_init_13 : decode cX1_init 13 = .ok (.bipush 6, 2) := by decide +kernel
theorem dX1_init_15 : decode cX1_init 15 = .ok (.newarray .int, 2) := by decide +kernel
theorem dX1_init_17 : decode cX1_init 17 = .ok (.putfield 15, 3) := by decide +kernel
theorem dX1_init_20 : decode cX1_init 20 = .ok (.return_, 1) := by decide +kernel
theorem dX1_nextPlace_0 : decode cX1_nextPlace 0 = .ok (.sipush 600, 3) := by decide +kernel
theorem dX1_nextPlace_3 : decode cX1_nextPlace 3 = .ok (.istore_n 2, 1) := by decide +kernel
theorem dX1_nextPlace_4 : decode cX1_nextPlace 4 = .ok (.iconst 0, 1) := by decide +kernel
theorem dX1_nextPlace_5 : decode cX1_nextPlace 5 = .ok (.istore_n 3, 1) := by decide +kernel
theorem dX1_nextPlace_6 : decode cX1_nextPlace 6 = .ok (.iload_n 3, 1) := by decide +kernel
theorem dX1_nextPlace_7 : decode cX1_nextPlace 7 = .ok (.bipush 6, 2) := by decide +kernel
theorem dX1_nextPlace_9 : decode cX1_nextPlace 9 = .ok (.if_icmp .ge 36, 3) := by decide +kernel
theorem dX1_nextPlace_12 : decode cX1_nextPlace 12 = .ok (.aload_n 0, 1) := by decide +kernel
theorem dX1_nextPlace_13 : decode cX1_nextPlace 13 = .ok (.iload_n 3, 1) := by decide +kernel
theorem dX1_nextPlace_14 : decode cX1_nextPlace 14 = .ok (.invokestatic 18, 3) := by decide +kernel
theorem dX1_nextPlace_17 : decode cX1_nextPlace 17 = .ok (.bipush 6, 2) := by decide +kernel
theorem dX1_nextPlace_19 : decode cX1_nextPlace 19 = .ok (.imul, 1) := by decide +kernel
theorem dX1_nextPlace_20 : decode cX1_nextPlace 20 = .ok (.iload_n 3, 1) := by decide +kernel
theorem dX1_nextPlace_21 : decode cX1_nextPlace 21 = .ok (.iadd, 1) := by decide +kernel
theorem dX1_nextPlace_22 : decode cX1_nextPlace 22 = .ok (.istore 4, 2) := by decide +kernel
theorem dX1_nextPlace_24 : decode cX1_nextPlace 24 = .ok (.iload 4, 2) := by decide +kernel
theorem dX1_nextPlace_26 : decode cX1_nextPlace 26 = .ok (.iload_n 1, 1) := by decide +kernel
theorem dX1_nextPlace_27 : decode cX1_nextPlace 27 = .ok (.if_icmp .le 12, 3) := by decide +kernel
theorem dX1_nextPlace_30 : decode cX1_nextPlace 30 = .ok (.iload 4, 2) := by decide +kernel
theorem dX1_nextPlace_32 : decode cX1_nextPlace 32 = .ok (.iload_n 2, 1) := by decide +kernel
theorem dX1_nextPlace_33 : decode cX1_nextPlace 33 = .ok (.if_icmp .ge 6, 3) := by decide +kernel
theorem dX1_nextPlace_36 : decode cX1_nextPlace 36 = .ok (.iload 4, 2) := by decide +kernel
theorem dX1_nextPlace_38 : decode cX1_nextPlace 38 = .ok (.istore_n 2, 1) := by decide +kernel
theorem dX1_nextPlace_39 : decode cX1_nextPlace 39 = .ok (.iinc 3 1, 3) := by decide +kernel
theorem dX1_nextPlace_42 : decode cX1_nextPlace 42 = .ok (.goto (-36), 3) := by decide +kernel
theorem dX1_nextPlace_45 : decode cX1_nextPlace 45 = .ok (.iload_n 2, 1) := by decide +kernel
theorem dX1_nextPlace_46 : decode cX1_nextPlace 46 = .ok (.ireturn, 1) := by decide +kernel
theorem dX1_part_0 : decode cX1_part 0 = .ok (.aload_n 0, 1) := by decide +kernel
theorem dX1_part_1 : decode cX1_part 1 = .ok (.getfield 15, 3) := by decide +kernel
theorem dX1_part_4 : decode cX1_part 4 = .ok (.iload_n 1, 1) := by decide +kernel
theorem dX1_part_5 : decode cX1_part 5 = .ok (.invokestatic 18, 3) := by decide +kernel
theorem dX1_part_8 : decode cX1_part 8 = .ok (.ireturn, 1) := by decide +kernel
theorem dX1_room_0 : decode cX1_room 0 = .ok (.aload_n 0, 1) := by decide +kernel
theorem dX1_room_1 : decode cX1_room 1 = .ok (.getfield 9, 3) := by decide +kernel
theorem dX1_room_4 : decode cX1_room 4 = .ok (.iload_n 1, 1) := by decide +kernel
theorem dX1_room_5 : decode cX1_room 5 = .ok (.invokestatic 18, 3) := by decide +kernel
theorem dX1_room_8 : decode cX1_room 8 = .ok (.ireturn, 1) := by decide +kernel
theorem dX1_setRoom_0 : decode cX1_setRoom 0 = .ok (.aload_n 0, 1) := by decide +kernel
theorem dX1_setRoom_1 : decode cX1_setRoom 1 = .ok (.getfield 9, 3) := by decide +kernel
theorem dX1_setRoom_4 : decode cX1_setRoom 4 = .ok (.iload_n 1, 1) := by decide +kernel
theorem dX1_setRoom_5 : decode cX1_setRoom 5 = .ok (.iload_n 2, 1) := by decide +kernel
theorem dX1_setRoom_6 : decode cX1_setRoom 6 = .ok (.invokestatic 22, 3) := by decide +kernel
theorem dX1_setRoom_9 : decode cX1_setRoom 9 = .ok (.return_, 1) := by decide +kernel
theorem dX1_share_0 : decode cX1_share 0 = .ok (.iconst 0, 1) := by decide +kernel
theorem dX1_share_1 : decode cX1_share 1 = .ok (.istore 4, 2) := by decide +kernel
theorem dX1_share_3 : decode cX1_share 3 = .ok (.iload 4, 2) := by decide +kernel
theorem dX1_share_5 : decode cX1_share 5 = .ok (.bipush 6, 2) := by decide +kernel
theorem dX1_share_7 : decode cX1_share 7 = .ok (.if_icmp .ge 19, 3) := by decide +kernel
theorem dX1_share_10 : decode cX1_share 10 = .ok (.aload_n 0, 1) := by decide +kernel
theorem dX1_share_11 : decode cX1_share 11 = .ok (.getfield 15, 3) := by decide +kernel
theorem dX1_share_14 : decode cX1_share 14 = .ok (.iload 4, 2) := by decide +kernel
theorem dX1_share_16 : decode cX1_share 16 = .ok (.iconst 0, 1) := by decide +kernel
theorem dX1_share_17 : decode cX1_share 17 = .ok (.invokestatic 22, 3) := by decide +kernel
theorem dX1_share_20 : decode cX1_share 20 = .ok (.iinc 4 1, 3) := by decide +kernel
theorem dX1_share_23 : decode cX1_share 23 = .ok (.goto (-20), 3) := by decide +kernel
theorem dX1_share_26 : decode cX1_share 26 = .ok (.aload_n 0, 1) := by decide +kernel
theorem dX1_share_27 : decode cX1_share 27 = .ok (.iload_n 1, 1) := by decide +kernel
theorem dX1_share_28 : decode cX1_share 28 = .ok (.putfield 26, 3) := by decide +kernel
theorem dX1_share_31 : decode cX1_share 31 = .ok (.iload_n 2, 1) := by decide +kernel
theorem dX1_share_32 : decode cX1_share 32 = .ok (.tableswitch 61 1 3 #[28, 43, 50], 28) := by decide +kernel
theorem dX1_share_60 : decode cX1_share 60 = .ok (.aload_n 0, 1) := by decide +kernel
theorem dX1_share_61 : decode cX1_share 61 = .ok (.aload_n 3, 1) := by decide +kernel
theorem dX1_share_62 : decode cX1_share 62 = .ok (.getfield 30, 3) := by decide +kernel
theorem dX1_share_65 : decode cX1_share 65 = .ok (.invokevirtual 35, 3) := by decide +kernel
theorem dX1_share_68 : decode cX1_share 68 = .ok (.aload_n 0, 1) := by decide +kernel
theorem dX1_share_69 : decode cX1_share 69 = .ok (.invokevirtual 39, 3) := by decide +kernel
theorem dX1_share_72 : decode cX1_share 72 = .ok (.goto 25, 3) := by decide +kernel
theorem dX1_share_75 : decode cX1_share 75 = .ok (.aload_n 0, 1) := by decide +kernel
theorem dX1_share_76 : decode cX1_share 76 = .ok (.invokevirtual 42, 3) := by decide +kernel
theorem dX1_share_79 : decode cX1_share 79 = .ok (.goto 18, 3) := by decide +kernel
theorem dX1_share_82 : decode cX1_share 82 = .ok (.aload_n 0, 1) := by decide +kernel
theorem dX1_share_83 : decode cX1_share 83 = .ok (.aload_n 3, 1) := by decide +kernel
theorem dX1_share_84 : decode cX1_share 84 = .ok (.getfield 45, 3) := by decide +kernel
theorem dX1_share_87 : decode cX1_share 87 = .ok (.invokevirtual 48, 3) := by decide +kernel
theorem dX1_share_90 : decode cX1_share 90 = .ok (.goto 7, 3) := by decide +kernel
theorem dX1_share_93 : decode cX1_share 93 = .ok (.aload_n 0, 1) := by decide +kernel
theorem dX1_share_94 : decode cX1_share 94 = .ok (.invokevirtual 39, 3) := by decide +kernel
theorem dX1_share_97 : decode cX1_share 97 = .ok (.return_, 1) := by decide +kernel
theorem dX1_shareByRank_0 : decode cX1_shareByRank 0 = .ok (.iconst (-1), 1) := by decide +kernel
theorem dX1_shareByRank_1 : decode cX1_shareByRank 1 = .ok (.istore_n 2, 1) := by decide +kernel
theorem dX1_shareByRank_2 : decode cX1_shareByRank 2 = .ok (.iconst 0, 1) := by decide +kernel
theorem dX1_shareByRank_3 : decode cX1_shareByRank 3 = .ok (.istore_n 3, 1) := by decide +kernel
theorem dX1_shareByRank_4 : decode cX1_shareByRank 4 = .ok (.iload_n 3, 1) := by decide +kernel
theorem dX1_shareByRank_5 : decode cX1_shareByRank 5 = .ok (.bipush 6, 2) := by decide +kernel
theorem dX1_shareByRank_7 : decode cX1_shareByRank 7 = .ok (.if_icmp .ge 27, 3) := by decide +kernel
theorem dX1_shareByRank_10 : decode cX1_shareByRank 10 = .ok (.aload_n 1, 1) := by decide +kernel
theorem dX1_shareByRank_11 : decode cX1_shareByRank 11 = .ok (.iload_n 2, 1) := by decide +kernel
theorem dX1_shareByRank_12 : decode cX1_shareByRank 12 = .ok (.invokestatic 79, 3) := by decide +kernel
theorem dX1_shareByRank_15 : decode cX1_shareByRank 15 = .ok (.istore_n 2, 1) := by decide +kernel
theorem dX1_shareByRank_16 : decode cX1_shareByRank 16 = .ok (.aload_n 0, 1) := by decide +kernel
theorem dX1_shareByRank_17 : decode cX1_shareByRank 17 = .ok (.iload_n 2, 1) := by decide +kernel
theorem dX1_shareByRank_18 : decode cX1_shareByRank 18 = .ok (.bipush 6, 2) := by decide +kernel
theorem dX1_shareByRank_20 : decode cX1_shareByRank 20 = .ok (.irem, 1) := by decide +kernel
theorem dX1_shareByRank_21 : decode cX1_shareByRank 21 = .ok (.aload_n 0, 1) := by decide +kernel
theorem dX1_shareByRank_22 : decode cX1_shareByRank 22 = .ok (.getfield 26, 3) := by decide +kernel
theorem dX1_shareByRank_25 : decode cX1_shareByRank 25 = .ok (.invokevirtual 69, 3) := by decide +kernel
theorem dX1_shareByRank_28 : decode cX1_shareByRank 28 = .ok (.iinc 3 1, 3) := by decide +kernel
theorem dX1_shareByRank_31 : decode cX1_shareByRank 31 = .ok (.goto (-27), 3) := by decide +kernel
theorem dX1_shareByRank_34 : decode cX1_shareByRank 34 = .ok (.return_, 1) := by decide +kernel
theorem dX1_shareByRoom_0 : decode cX1_shareByRoom 0 = .ok (.aload_n 0, 1) := by decide +kernel
theorem dX1_shareByRoom_1 : decode cX1_shareByRoom 1 = .ok (.getfield 26, 3) := by decide +kernel
theorem dX1_shareByRoom_4 : decode cX1_shareByRoom 4 = .ok (.istore_n 1, 1) := by decide +kernel
theorem dX1_shareByRoom_5 : decode cX1_shareByRoom 5 = .ok (.aload_n 0, 1) := by decide +kernel
theorem dX1_shareByRoom_6 : decode cX1_shareByRoom 6 = .ok (.invokevirtual 76, 3) := by decide +kernel
theorem dX1_shareByRoom_9 : decode cX1_shareByRoom 9 = .ok (.istore_n 2, 1) := by decide +kernel
theorem dX1_shareByRoom_10 : decode cX1_shareByRoom 10 = .ok (.iload_n 2, 1) := by decide +kernel
theorem dX1_shareByRoom_11 : decode cX1_shareByRoom 11 = .ok (.ifCond .gt 4, 3) := by decide +kernel
theorem dX1_shareByRoom_14 : decode cX1_shareByRoom 14 = .ok (.return_, 1) := by decide +kernel
theorem dX1_shareByRoom_15 : decode cX1_shareByRoom 15 = .ok (.iconst 0, 1) := by decide +kernel
theorem dX1_shareByRoom_16 : decode cX1_shareByRoom 16 = .ok (.istore_n 3, 1) := by decide +kernel
theorem dX1_shareByRoom_17 : decode cX1_shareByRoom 17 = .ok (.iload_n 3, 1) := by decide +kernel
theorem dX1_shareByRoom_18 : decode cX1_shareByRoom 18 = .ok (.bipush 6, 2) := by decide +kernel
theorem dX1_shareByRoom_20 : decode cX1_shareByRoom 20 = .ok (.if_icmp .ge 26, 3) := by decide +kernel
theorem dX1_shareByRoom_23 : decode cX1_shareByRoom 23 = .ok (.aload_n 0, 1) := by decide +kernel
theorem dX1_shareByRoom_24 : decode cX1_shareByRoom 24 = .ok (.iload_n 3, 1) := by decide +kernel
theorem dX1_shareByRoom_25 : decode cX1_shareByRoom 25 = .ok (.iload_n 1, 1) := by decide +kernel
theorem dX1_shareByRoom_26 : decode cX1_shareByRoom 26 = .ok (.aload_n 0, 1) := by decide +kernel
theorem dX1_shareByRoom_27 : decode cX1_shareByRoom 27 = .ok (.getfield 9, 3) := by decide +kernel
theorem dX1_shareByRoom_30 : decode cX1_shareByRoom 30 = .ok (.iload_n 3, 1) := by decide +kernel
theorem dX1_shareByRoom_31 : decode cX1_shareByRoom 31 = .ok (.invokestatic 18, 3) := by decide +kernel
theorem dX1_shareByRoom_34 : decode cX1_shareByRoom 34 = .ok (.imul, 1) := by decide +kernel
theorem dX1_shareByRoom_35 : decode cX1_shareByRoom 35 = .ok (.iload_n 2, 1) := by decide +kernel
theorem dX1_shareByRoom_36 : decode cX1_shareByRoom 36 = .ok (.idiv, 1) := by decide +kernel
theorem dX1_shareByRoom_37 : decode cX1_shareByRoom 37 = .ok (.invokevirtual 69, 3) := by decide +kernel
theorem dX1_shareByRoom_40 : decode cX1_shareByRoom 40 = .ok (.iinc 3 1, 3) := by decide +kernel
theorem dX1_shareByRoom_43 : decode cX1_shareByRoom 43 = .ok (.goto (-26), 3) := by decide +kernel
theorem dX1_shareByRoom_46 : decode cX1_shareByRoom 46 = .ok (.aload_n 0, 1) := by decide +kernel
theorem dX1_shareByRoom_47 : decode cX1_shareByRoom 47 = .ok (.iconst 1, 1) := by decide +kernel
theorem dX1_shareByRoom_48 : decode cX1_shareByRoom 48 = .ok (.invokevirtual 61, 3) := by decide +kernel
theorem dX1_shareByRoom_51 : decode cX1_shareByRoom 51 = .ok (.return_, 1) := by decide +kernel
theorem dX1_shareByShares_0 : decode cX1_shareByShares 0 = .ok (.iconst 0, 1) := by decide +kernel
theorem dX1_shareByShares_1 : decode cX1_shareByShares 1 = .ok (.istore_n 2, 1) := by decide +kernel
theorem dX1_shareByShares_2 : decode cX1_shareByShares 2 = .ok (.aload_n 0, 1) := by decide +kernel
theorem dX1_shareByShares_3 : decode cX1_shareByShares 3 = .ok (.getfield 26, 3) := by decide +kernel
theorem dX1_shareByShares_6 : decode cX1_shareByShares 6 = .ok (.ifCond .le 80, 3) := by decide +kernel
theorem dX1_shareByShares_9 : decode cX1_shareByShares 9 = .ok (.iload_n 2, 1) := by decide +kernel
theorem dX1_shareByShares_10 : decode cX1_shareByShares 10 = .ok (.sipush 1000, 3) := by decide +kernel
theorem dX1_shareByShares_13 : decode cX1_shareByShares 13 = .ok (.if_icmp .ge 73, 3) := by decide +kernel
theorem dX1_shareByShares_16 : decode cX1_shareByShares 16 = .ok (.aload_n 0, 1) := by decide +kernel
theorem dX1_shareByShares_17 : decode cX1_shareByShares 17 = .ok (.aload_n 1, 1) := by decide +kernel
theorem dX1_shareByShares_18 : decode cX1_shareByShares 18 = .ok (.invokevirtual 65, 3) := by decide +kernel
theorem dX1_shareByShares_21 : decode cX1_shareByShares 21 = .ok (.istore_n 3, 1) := by decide +kernel
theorem dX1_shareByShares_22 : decode cX1_shareByShares 22 = .ok (.iload_n 3, 1) := by decide +kernel
theorem dX1_shareByShares_23 : decode cX1_shareByShares 23 = .ok (.ifCond .gt 4, 3) := by decide +kernel
theorem dX1_shareByShares_26 : decode cX1_shareByShares 26 = .ok (.return_, 1) := by decide +kernel
theorem dX1_shareByShares_27 : decode cX1_shareByShares 27 = .ok (.aload_n 0, 1) := by decide +kernel
theorem dX1_shareByShares_28 : decode cX1_shareByShares 28 = .ok (.getfield 26, 3) := by decide +kernel
theorem dX1_shareByShares_31 : decode cX1_shareByShares 31 = .ok (.istore 4, 2) := by decide +kernel
theorem dX1_shareByShares_33 : decode cX1_shareByShares 33 = .ok (.iconst 0, 1) := by decide +kernel
theorem dX1_shareByShares_34 : decode cX1_shareByShares 34 = .ok (.istore 5, 2) := by decide +kernel
theorem dX1_shareByShares_36 : decode cX1_shareByShares 36 = .ok (.iload 5, 2) := by decide +kernel
theorem dX1_shareByShares_38 : decode cX1_shareByShares 38 = .ok (.bipush 6, 2) := by decide +kernel
theorem dX1_shareByShares_40 : decode cX1_shareByShares 40 = .ok (.if_icmp .ge 26, 3) := by decide +kernel
theorem dX1_shareByShares_43 : decode cX1_shareByShares 43 = .ok (.aload_n 0, 1) := by decide +kernel
theorem dX1_shareByShares_44 : decode cX1_shareByShares 44 = .ok (.iload 5, 2) := by decide +kernel
theorem dX1_shareByShares_46 : decode cX1_shareByShares 46 = .ok (.iload 4, 2) := by decide +kernel
theorem dX1_shareByShares_48 : decode cX1_shareByShares 48 = .ok (.aload_n 1, 1) := by decide +kernel
theorem dX1_shareByShares_49 : decode cX1_shareByShares 49 = .ok (.iload 5, 2) := by decide +kernel
theorem dX1_shareByShares_51 : decode cX1_shareByShares 51 = .ok (.invokestatic 18, 3) := by decide +kernel
theorem dX1_shareByShares_54 : decode cX1_shareByShares 54 = .ok (.imul, 1) := by decide +kernel
theorem dX1_shareByShares_55 : decode cX1_shareByShares 55 = .ok (.iload_n 3, 1) := by decide +kernel
theorem dX1_shareByShares_56 : decode cX1_shareByShares 56 = .ok (.idiv, 1) := by decide +kernel
theorem dX1_shareByShares_57 : decode cX1_shareByShares 57 = .ok (.invokevirtual 69, 3) := by decide +kernel
theorem dX1_shareByShares_60 : decode cX1_shareByShares 60 = .ok (.iinc 5 1, 3) := by decide +kernel
theorem dX1_shareByShares_63 : decode cX1_shareByShares 63 = .ok (.goto (-27), 3) := by decide +kernel
theorem dX1_shareByShares_66 : decode cX1_shareByShares 66 = .ok (.aload_n 0, 1) := by decide +kernel
theorem dX1_shareByShares_67 : decode cX1_shareByShares 67 = .ok (.getfield 26, 3) := by decide +kernel
theorem dX1_shareByShares_70 : decode cX1_shareByShares 70 = .ok (.iload 4, 2) := by decide +kernel
theorem dX1_shareByShares_72 : decode cX1_shareByShares 72 = .ok (.if_icmp .ne 8, 3) := by decide +kernel
theorem dX1_shareByShares_75 : decode cX1_shareByShares 75 = .ok (.aload_n 0, 1) := by decide +kernel
theorem dX1_shareByShares_76 : decode cX1_shareByShares 76 = .ok (.aload_n 1, 1) := by decide +kernel
theorem dX1_shareByShares_77 : decode cX1_shareByShares 77 = .ok (.invokevirtual 73, 3) := by decide +kernel
theorem dX1_shareByShares_80 : decode cX1_shareByShares 80 = .ok (.iinc 2 1, 3) := by decide +kernel
theorem dX1_shareByShares_83 : decode cX1_shareByShares 83 = .ok (.goto (-81), 3) := by decide +kernel
theorem dX1_shareByShares_86 : decode cX1_shareByShares 86 = .ok (.return_, 1) := by decide +kernel
theorem dX1_shareEqually_0 : decode cX1_shareEqually 0 = .ok (.iconst 0, 1) := by decide +kernel
theorem dX1_shareEqually_1 : decode cX1_shareEqually 1 = .ok (.istore_n 1, 1) := by decide +kernel
theorem dX1_shareEqually_2 : decode cX1_shareEqually 2 = .ok (.aload_n 0, 1) := by decide +kernel
theorem dX1_shareEqually_3 : decode cX1_shareEqually 3 = .ok (.getfield 26, 3) := by decide +kernel
theorem dX1_shareEqually_6 : decode cX1_shareEqually 6 = .ok (.ifCond .le 40, 3) := by decide +kernel
theorem dX1_shareEqually_9 : decode cX1_shareEqually 9 = .ok (.iload_n 1, 1) := by decide +kernel
theorem dX1_shareEqually_10 : decode cX1_shareEqually 10 = .ok (.sipush 1000, 3) := by decide +kernel
theorem dX1_shareEqually_13 : decode cX1_shareEqually 13 = .ok (.if_icmp .ge 33, 3) := by decide +kernel
theorem dX1_shareEqually_16 : decode cX1_shareEqually 16 = .ok (.aload_n 0, 1) := by decide +kernel
theorem dX1_shareEqually_17 : decode cX1_shareEqually 17 = .ok (.invokevirtual 51, 3) := by decide +kernel
theorem dX1_shareEqually_20 : decode cX1_shareEqually 20 = .ok (.istore_n 2, 1) := by decide +kernel
theorem dX1_shareEqually_21 : decode cX1_shareEqually 21 = .ok (.iload_n 2, 1) := by decide +kernel
theorem dX1_shareEqually_22 : decode cX1_shareEqually 22 = .ok (.ifCond .gt 4, 3) := by decide +kernel
theorem dX1_shareEqually_25 : decode cX1_shareEqually 25 = .ok (.return_, 1) := by decide +kernel
theorem dX1_shareEqually_26 : decode cX1_shareEqually 26 = .ok (.aload_n 0, 1) := by decide +kernel
theorem dX1_shareEqually_27 : decode cX1_shareEqually 27 = .ok (.iconst 1, 1) := by decide +kernel
theorem dX1_shareEqually_28 : decode cX1_shareEqually 28 = .ok (.aload_n 0, 1) := by decide +kernel
theorem dX1_shareEqually_29 : decode cX1_shareEqually 29 = .ok (.getfield 26, 3) := by decide +kernel
theorem dX1_shareEqually_32 : decode cX1_shareEqually 32 = .ok (.iload_n 2, 1) := by decide +kernel
theorem dX1_shareEqually_33 : decode cX1_shareEqually 33 = .ok (.idiv, 1) := by decide +kernel
theorem dX1_shareEqually_34 : decode cX1_shareEqually 34 = .ok (.invokestatic 55, 3) := by decide +kernel
theorem dX1_shareEqually_37 : decode cX1_shareEqually 37 = .ok (.invokevirtual 61, 3) := by decide +kernel
theorem dX1_shareEqually_40 : decode cX1_shareEqually 40 = .ok (.iinc 1 1, 3) := by decide +kernel
theorem dX1_shareEqually_43 : decode cX1_shareEqually 43 = .ok (.goto (-41), 3) := by decide +kernel
theorem dX1_shareEqually_46 : decode cX1_shareEqually 46 = .ok (.return_, 1) := by decide +kernel
theorem dX1_sumOfRooms_0 : decode cX1_sumOfRooms 0 = .ok (.iconst 0, 1) := by decide +kernel
theorem dX1_sumOfRooms_1 : decode cX1_sumOfRooms 1 = .ok (.istore_n 1, 1) := by decide +kernel
theorem dX1_sumOfRooms_2 : decode cX1_sumOfRooms 2 = .ok (.iconst 0, 1) := by decide +kernel
theorem dX1_sumOfRooms_3 : decode cX1_sumOfRooms 3 = .ok (.istore_n 2, 1) := by decide +kernel
theorem dX1_sumOfRooms_4 : decode cX1_sumOfRooms 4 = .ok (.iload_n 2, 1) := by decide +kernel
theorem dX1_sumOfRooms_5 : decode cX1_sumOfRooms 5 = .ok (.bipush 6, 2) := by decide +kernel
theorem dX1_sumOfRooms_7 : decode cX1_sumOfRooms 7 = .ok (.if_icmp .ge 20, 3) := by decide +kernel
theorem dX1_sumOfRooms_10 : decode cX1_sumOfRooms 10 = .ok (.iload_n 1, 1) := by decide +kernel
theorem dX1_sumOfRooms_11 : decode cX1_sumOfRooms 11 = .ok (.aload_n 0, 1) := by decide +kernel
theorem dX1_sumOfRooms_12 : decode cX1_sumOfRooms 12 = .ok (.getfield 9, 3) := by decide +kernel
theorem dX1_sumOfRooms_15 : decode cX1_sumOfRooms 15 = .ok (.iload_n 2, 1) := by decide +kernel
theorem dX1_sumOfRooms_16 : decode cX1_sumOfRooms 16 = .ok (.invokestatic 18, 3) := by decide +kernel
theorem dX1_sumOfRooms_19 : decode cX1_sumOfRooms 19 = .ok (.iadd, 1) := by decide +kernel
theorem dX1_sumOfRooms_20 : decode cX1_sumOfRooms 20 = .ok (.istore_n 1, 1) := by decide +kernel
theorem dX1_sumOfRooms_21 : decode cX1_sumOfRooms 21 = .ok (.iinc 2 1, 3) := by decide +kernel
theorem dX1_sumOfRooms_24 : decode cX1_sumOfRooms 24 = .ok (.goto (-20), 3) := by decide +kernel
theorem dX1_sumOfRooms_27 : decode cX1_sumOfRooms 27 = .ok (.iload_n 1, 1) := by decide +kernel
theorem dX1_sumOfRooms_28 : decode cX1_sumOfRooms 28 = .ok (.ireturn, 1) := by decide +kernel
theorem dX1_sumOfShares_0 : decode cX1_sumOfShares 0 = .ok (.iconst 0, 1) := by decide +kernel
theorem dX1_sumOfShares_1 : decode cX1_sumOfShares 1 = .ok (.istore_n 2, 1) := by decide +kernel
theorem dX1_sumOfShares_2 : decode cX1_sumOfShares 2 = .ok (.iconst 0, 1) := by decide +kernel
theorem dX1_sumOfShares_3 : decode cX1_sumOfShares 3 = .ok (.istore_n 3, 1) := by decide +kernel
theorem dX1_sumOfShares_4 : decode cX1_sumOfShares 4 = .ok (.iload_n 3, 1) := by decide +kernel
theorem dX1_sumOfShares_5 : decode cX1_sumOfShares 5 = .ok (.bipush 6, 2) := by decide +kernel
theorem dX1_sumOfShares_7 : decode cX1_sumOfShares 7 = .ok (.if_icmp .ge 28, 3) := by decide +kernel
theorem dX1_sumOfShares_10 : decode cX1_sumOfShares 10 = .ok (.aload_n 0, 1) := by decide +kernel
theorem dX1_sumOfShares_11 : decode cX1_sumOfShares 11 = .ok (.getfield 9, 3) := by decide +kernel
theorem dX1_sumOfShares_14 : decode cX1_sumOfShares 14 = .ok (.iload_n 3, 1) := by decide +kernel
theorem dX1_sumOfShares_15 : decode cX1_sumOfShares 15 = .ok (.invokestatic 18, 3) := by decide +kernel
theorem dX1_sumOfShares_18 : decode cX1_sumOfShares 18 = .ok (.ifCond .le 11, 3) := by decide +kernel
theorem dX1_sumOfShares_21 : decode cX1_sumOfShares 21 = .ok (.iload_n 2, 1) := by decide +kernel
theorem dX1_sumOfShares_22 : decode cX1_sumOfShares 22 = .ok (.aload_n 1, 1) := by decide +kernel
theorem dX1_sumOfShares_23 : decode cX1_sumOfShares 23 = .ok (.iload_n 3, 1) := by decide +kernel
theorem dX1_sumOfShares_24 : decode cX1_sumOfShares 24 = .ok (.invokestatic 18, 3) := by decide +kernel
theorem dX1_sumOfShares_27 : decode cX1_sumOfShares 27 = .ok (.iadd, 1) := by decide +kernel
theorem dX1_sumOfShares_28 : decode cX1_sumOfShares 28 = .ok (.istore_n 2, 1) := by decide +kernel
theorem dX1_sumOfShares_29 : decode cX1_sumOfShares 29 = .ok (.iinc 3 1, 3) := by decide +kernel
theorem dX1_sumOfShares_32 : decode cX1_sumOfShares 32 = .ok (.goto (-28), 3) := by decide +kernel
theorem dX1_sumOfShares_35 : decode cX1_sumOfShares 35 = .ok (.iload_n 2, 1) := by decide +kernel
theorem dX1_sumOfShares_36 : decode cX1_sumOfShares 36 = .ok (.ireturn, 1) := by decide +kernel
theorem dX2_amount_0 : decode cX2_amount 0 = .ok (.aload_n 0, 1) := by decide +kernel
theorem dX2_amount_1 : decode cX2_amount 1 = .ok (.getfield 25, 3) := by decide +kernel
theorem dX2_amount_4 : decode cX2_amount 4 = .ok (.iload_n 1, 1) := by decide +kernel
theorem dX2_amount_5 : decode cX2_amount 5 = .ok (.bipush 8, 2) := by decide +kernel
theorem dX2_amount_7 : decode cX2_amount 7 = .ok (.imul, 1) := by decide +kernel
theorem dX2_amount_8 : decode cX2_amount 8 = .ok (.iload_n 2, 1) := by decide +kernel
theorem dX2_amount_9 : decode cX2_amount 9 = .ok (.iadd, 1) := by decide +kernel
theorem dX2_amount_10 : decode cX2_amount 10 = .ok (.invokestatic 28, 3) := by decide +kernel
theorem dX2_amount_13 : decode cX2_amount 13 = .ok (.ireturn, 1) := by decide +kernel
theorem dX2_copyReadings_0 : decode cX2_copyReadings 0 = .ok (.iconst 0, 1) := by decide +kernel
theorem dX2_copyReadings_1 : decode cX2_copyReadings 1 = .ok (.istore_n 2, 1) := by decide +kernel
theorem dX2_copyReadings_2 : decode cX2_copyReadings 2 = .ok (.iload_n 2, 1) := by decide +kernel
theorem dX2_copyReadings_3 : decode cX2_copyReadings 3 = .ok (.bipush 6, 2) := by decide +kernel
theorem dX2_copyReadings_5 : decode cX2_copyReadings 5 = .ok (.if_icmp .ge 31, 3) := by decide +kernel
theorem dX2_copyReadings_8 : decode cX2_copyReadings 8 = .ok (.aload_n 0, 1) := by decide +kernel
theorem dX2_copyReadings_9 : decode cX2_copyReadings 9 = .ok (.iload_n 2, 1) := by decide +kernel
theorem dX2_copyReadings_10 : decode cX2_copyReadings 10 = .ok (.aload_n 1, 1) := by decide +kernel
theorem dX2_copyReadings_11 : decode cX2_copyReadings 11 = .ok (.getfield 18, 3) := by decide +kernel
theorem dX2_copyReadings_14 : decode cX2_copyReadings 14 = .ok (.iload_n 2, 1) := by decide +kernel
theorem dX2_copyReadings_15 : decode cX2_copyReadings 15 = .ok (.invokestatic 28, 3) := by decide +kernel
theorem dX2_copyReadings_18 : decode cX2_copyReadings 18 = .ok (.aload_n 1, 1) := by decide +kernel
theorem dX2_copyReadings_19 : decode cX2_copyReadings 19 = .ok (.getfield 22, 3) := by decide +kernel
theorem dX2_copyReadings_22 : decode cX2_copyReadings 22 = .ok (.iload_n 2, 1) := by decide +kernel
theorem dX2_copyReadings_23 : decode cX2_copyReadings 23 = .ok (.invokestatic 28, 3) := by decide +kernel
theorem dX2_copyReadings_26 : decode cX2_copyReadings 26 = .ok (.invokevirtual 36, 3) := by decide +kernel
theorem dX2_copyReadings_29 : decode cX2_copyReadings 29 = .ok (.pop, 1) := by decide +kernel
theorem dX2_copyReadings_30 : decode cX2_copyReadings 30 = .ok (.iinc 2 1, 3) := by decide +kernel
theorem dX2_copyReadings_33 : decode cX2_copyReadings 33 = .ok (.goto (-31), 3) := by decide +kernel
theorem dX2_copyReadings_36 : decode cX2_copyReadings 36 = .ok (.return_, 1) := by decide +kernel
theorem dX2_init_0 : decode cX2_init 0 = .ok (.aload_n 0, 1) := by decide +kernel
theorem dX2_init_1 : decode cX2_init 1 = .ok (.invokespecial 3, 3) := by decide +kernel
theorem dX2_init_4 : decode cX2_init 4 = .ok (.aload_n 0, 1) := by decide +kernel
theorem dX2_init_5 : decode cX2_init 5 = .ok (.new 9, 3) := by decide +kernel
theorem dX2_init_8 : decode cX2_init 8 = .ok (.dup, 1) := by decide +kernel
theorem dX2_init_9 : decode cX2_init 9 = .ok (.invokespecial 11, 3) := by decide +kernel
theorem dX2_init_12 : decode cX2_init 12 = .ok (.putfield 12, 3) := by decide +kernel
theorem dX2_init_15 : decode cX2_init 15 = .ok (.aload_n 0, 1) := by decide +kernel
theorem dX2_init_16 : decode cX2_init 16 = .ok (.bipush 6, 2) := by decide +kernel
theorem dX2_init_18 : decode cX2_init 18 = .ok (.newarray .int, 2) := by decide +kernel
theorem dX2_init_20 : decode cX2_init 20 = .ok (.putfield 18, 3) := by decide +kernel
theorem dX2_init_23 : decode cX2_init 23 = .ok (.aload_n 0, 1) := by decide +kernel
theorem dX2_init_24 : decode cX2_init 24 = .ok (.bipush 6, 2) := by decide +kernel
theorem dX2_init_26 : decode cX2_init 26 = .ok (.newarray .int, 2) := by decide +kernel
theorem dX2_init_28 : decode cX2_init 28 = .ok (.putfield 22, 3) := by decide +kernel
theorem dX2_init_31 : decode cX2_init 31 = .ok (.aload_n 0, 1) := by decide +kernel
theorem dX2_init_32 : decode cX2_init 32 = .ok (.bipush 48, 2) := by decide +kernel
theorem dX2_init_34 : decode cX2_init 34 = .ok (.newarray .int, 2) := by decide +kernel
theorem dX2_init_36 : decode cX2_init 36 = .ok (.putfield 25, 3) := by decide +kernel
theorem dX2_init_39 : decode cX2_init 39 = .ok (.return_, 1) := by decide +kernel
theorem dX2_moneyOf_0 : decode cX2_moneyOf 0 = .ok (.aload_n 0, 1) := by decide +kernel
theorem dX2_moneyOf_1 : decode cX2_moneyOf 1 = .ok (.iload_n 1, 1) := by decide +kernel
theorem dX2_moneyOf_2 : decode cX2_moneyOf 2 = .ok (.iconst 4, 1) := by decide +kernel
theorem dX2_moneyOf_3 : decode cX2_moneyOf 3 = .ok (.invokevirtual 40, 3) := by decide +kernel
theorem dX2_moneyOf_6 : decode cX2_moneyOf 6 = .ok (.aload_n 0, 1) := by decide +kernel
theorem dX2_moneyOf_7 : decode cX2_moneyOf 7 = .ok (.iload_n 1, 1) := by decide +kernel
theorem dX2_moneyOf_8 : decode cX2_moneyOf 8 = .ok (.iconst 5, 1) := by decide +kernel
theorem dX2_moneyOf_9 : decode cX2_moneyOf 9 = .ok (.invokevirtual 40, 3) := by decide +kernel
theorem dX2_moneyOf_12 : decode cX2_moneyOf 12 = .ok (.iadd, 1) := by decide +kernel
theorem dX2_moneyOf_13 : decode cX2_moneyOf 13 = .ok (.istore_n 2, 1) := by decide +kernel
theorem dX2_moneyOf_14 : decode cX2_moneyOf 14 = .ok (.aload_n 0, 1) := by decide +kernel
theorem dX2_moneyOf_15 : decode cX2_moneyOf 15 = .ok (.iload_n 1, 1) := by decide +kernel
theorem dX2_moneyOf_16 : decode cX2_moneyOf 16 = .ok (.iconst 1, 1) := by decide +kernel
theorem dX2_moneyOf_17 : decode cX2_moneyOf 17 = .ok (.invokevirtual 40, 3) := by decide +kernel
theorem dX2_moneyOf_20 : decode cX2_moneyOf 20 = .ok (.aload_n 0, 1) := by decide +kernel
theorem dX2_moneyOf_21 : decode cX2_moneyOf 21 = .ok (.iload_n 1, 1) := by decide +kernel
theorem dX2_moneyOf_22 : decode cX2_moneyOf 22 = .ok (.iconst 2, 1) := by decide +kernel
theorem dX2_moneyOf_23 : decode cX2_moneyOf 23 = .ok (.invokevirtual 40, 3) := by decide +kernel
theorem dX2_moneyOf_26 : decode cX2_moneyOf 26 = .ok (.iadd, 1) := by decide +kernel
theorem dX2_moneyOf_27 : decode cX2_moneyOf 27 = .ok (.istore_n 3, 1) := by decide +kernel
theorem dX2_moneyOf_28 : decode cX2_moneyOf 28 = .ok (.aload_n 0, 1) := by decide +kernel
theorem dX2_moneyOf_29 : decode cX2_moneyOf 29 = .ok (.getfield 12, 3) := by decide +kernel
theorem dX2_moneyOf_32 : decode cX2_moneyOf 32 = .ok (.getfield 44, 3) := by decide +kernel
theorem dX2_moneyOf_35 : decode cX2_moneyOf 35 = .ok (.iload_n 2, 1) := by decide +kernel
theorem dX2_moneyOf_36 : decode cX2_moneyOf 36 = .ok (.iload_n 3, 1) := by decide +kernel
theorem dX2_moneyOf_37 : decode cX2_moneyOf 37 = .ok (.isub, 1) := by decide +kernel
theorem dX2_moneyOf_38 : decode cX2_moneyOf 38 = .ok (.imul, 1) := by decide +kernel
theorem dX2_moneyOf_39 : decode cX2_moneyOf 39 = .ok (.aload_n 0, 1) := by decide +kernel
theorem dX2_moneyOf_40 : decode cX2_moneyOf 40 = .ok (.getfield 12, 3) := by decide +kernel
theorem dX2_moneyOf_43 : decode cX2_moneyOf 43 = .ok (.getfield 48, 3) := by decide +kernel
theorem dX2_moneyOf_46 : decode cX2_moneyOf 46 = .ok (.aload_n 0, 1) := by decide +kernel
theorem dX2_moneyOf_47 : decode cX2_moneyOf 47 = .ok (.iload_n 1, 1) := by decide +kernel
theorem dX2_moneyOf_48 : decode cX2_moneyOf 48 = .ok (.bipush 6, 2) := by decide +kernel
theorem dX2_moneyOf_50 : decode cX2_moneyOf 50 = .ok (.invokevirtual 40, 3) := by decide +kernel
theorem dX2_moneyOf_53 : decode cX2_moneyOf 53 = .ok (.imul, 1) := by decide +kernel
theorem dX2_moneyOf_54 : decode cX2_moneyOf 54 = .ok (.iadd, 1) := by decide +kernel
theorem dX2_moneyOf_55 : decode cX2_moneyOf 55 = .ok (.aload_n 0, 1) := by decide +kernel
theorem dX2_moneyOf_56 : decode cX2_moneyOf 56 = .ok (.getfield 12, 3) := by decide +kernel
theorem dX2_moneyOf_59 : decode cX2_moneyOf 59 = .ok (.getfield 51, 3) := by decide +kernel
theorem dX2_moneyOf_62 : decode cX2_moneyOf 62 = .ok (.aload_n 0, 1) := by decide +kernel
theorem dX2_moneyOf_63 : decode cX2_moneyOf 63 = .ok (.iload_n 1, 1) := by decide +kernel
theorem dX2_moneyOf_64 : decode cX2_moneyOf 64 = .ok (.iconst 3, 1) := by decide +kernel
theorem dX2_moneyOf_65 : decode cX2_moneyOf 65 = .ok (.invokevirtual 40, 3) := by decide +kernel
theorem dX2_moneyOf_68 : decode cX2_moneyOf 68 = .ok (.imul, 1) := by decide +kernel
theorem dX2_moneyOf_69 : decode cX2_moneyOf 69 = .ok (.isub, 1) := by decide +kernel
theorem dX2_moneyOf_70 : decode cX2_moneyOf 70 = .ok (.ireturn, 1) := by decide +kernel
theorem dX2_setAmount_0 : decode cX2_setAmount 0 = .ok (.aload_n 0, 1) := by decide +kernel
theorem dX2_setAmount_1 : decode cX2_setAmount 1 = .ok (.getfield 25, 3) := by decide +kernel
theorem dX2_setAmount_4 : decode cX2_setAmount 4 = .ok (.iload_n 1, 1) := by decide +kernel
theorem dX2_setAmount_5 : decode cX2_setAmount 5 = .ok (.bipush 8, 2) := by decide +kernel
theorem dX2_setAmount_7 : decode cX2_setAmount 7 = .ok (.imul, 1) := by decide +kernel
theorem dX2_setAmount_8 : decode cX2_setAmount 8 = .ok (.iload_n 2, 1) := by decide +kernel
theorem dX2_setAmount_9 : decode cX2_setAmount 9 = .ok (.iadd, 1) := by decide +kernel
theorem dX2_setAmount_10 : decode cX2_setAmount 10 = .ok (.iload_n 3, 1) := by decide +kernel
theorem dX2_setAmount_11 : decode cX2_setAmount 11 = .ok (.invokestatic 32, 3) := by decide +kernel
theorem dX2_setAmount_14 : decode cX2_setAmount 14 = .ok (.return_, 1) := by decide +kernel
theorem dX2_setReading_0 : decode cX2_setReading 0 = .ok (.aload_n 0, 1) := by decide +kernel
theorem dX2_setReading_1 : decode cX2_setReading 1 = .ok (.getfield 18, 3) := by decide +kernel
theorem dX2_setReading_4 : decode cX2_setReading 4 = .ok (.iload_n 1, 1) := by decide +kernel
theorem dX2_setReading_5 : decode cX2_setReading 5 = .ok (.invokestatic 28, 3) := by decide +kernel
theorem dX2_setReading_8 : decode cX2_setReading 8 = .ok (.iload_n 2, 1) := by decide +kernel
theorem dX2_setReading_9 : decode cX2_setReading 9 = .ok (.if_icmp .ne 15, 3) := by decide +kernel
theorem dX2_setReading_12 : decode cX2_setReading 12 = .ok (.aload_n 0, 1) := by decide +kernel
theorem dX2_setReading_13 : decode cX2_setReading 13 = .ok (.getfield 22, 3) := by decide +kernel
theorem dX2_setReading_16 : decode cX2_setReading 16 = .ok (.iload_n 1, 1) := by decide +kernel
theorem dX2_setReading_17 : decode cX2_setReading 17 = .ok (.invokestatic 28, 3) := by decide +kernel
theorem dX2_setReading_20 : decode cX2_setReading 20 = .ok (.iload_n 3, 1) := by decide +kernel
theorem dX2_setReading_21 : decode cX2_setReading 21 = .ok (.if_icmp .eq 7, 3) := by decide +kernel
theorem dX2_setReading_24 : decode cX2_setReading 24 = .ok (.iconst 1, 1) := by decide +kernel
theorem dX2_setReading_25 : decode cX2_setReading 25 = .ok (.goto 4, 3) := by decide +kernel
theorem dX2_setReading_28 : decode cX2_setReading 28 = .ok (.iconst 0, 1) := by decide +kernel
theorem dX2_setReading_29 : decode cX2_setReading 29 = .ok (.istore 4, 2) := by decide +kernel
theorem dX2_setReading_31 : decode cX2_setReading 31 = .ok (.aload_n 0, 1) := by decide +kernel
theorem dX2_setReading_32 : decode cX2_setReading 32 = .ok (.getfield 18, 3) := by decide +kernel
theorem dX2_setReading_35 : decode cX2_setReading 35 = .ok (.iload_n 1, 1) := by decide +kernel
theorem dX2_setReading_36 : decode cX2_setReading 36 = .ok (.iload_n 2, 1) := by decide +kernel
theorem dX2_setReading_37 : decode cX2_setReading 37 = .ok (.invokestatic 32, 3) := by decide +kernel
theorem dX2_setReading_40 : decode cX2_setReading 40 = .ok (.aload_n 0, 1) := by decide +kernel
theorem dX2_setReading_41 : decode cX2_setReading 41 = .ok (.getfield 22, 3) := by decide +kernel
theorem dX2_setReading_44 : decode cX2_setReading 44 = .ok (.iload_n 1, 1) := by decide +kernel
theorem dX2_setReading_45 : decode cX2_setReading 45 = .ok (.iload_n 3, 1) := by decide +kernel
theorem dX2_setReading_46 : decode cX2_setReading 46 = .ok (.invokestatic 32, 3) := by decide +kernel
theorem dX2_setReading_49 : decode cX2_setReading 49 = .ok (.iload 4, 2) := by decide +kernel
theorem dX2_setReading_51 : decode cX2_setReading 51 = .ok (.ireturn, 1) := by decide +kernel
theorem dX2_sum_0 : decode cX2_sum 0 = .ok (.iconst 0, 1) := by decide +kernel
theorem dX2_sum_1 : decode cX2_sum 1 = .ok (.istore_n 2, 1) := by decide +kernel
theorem dX2_sum_2 : decode cX2_sum 2 = .ok (.iconst 0, 1) := by decide +kernel
theorem dX2_sum_3 : decode cX2_sum 3 = .ok (.istore_n 3, 1) := by decide +kernel
theorem dX2_sum_4 : decode cX2_sum 4 = .ok (.iload_n 3, 1) := by decide +kernel
theorem dX2_sum_5 : decode cX2_sum 5 = .ok (.bipush 6, 2) := by decide +kernel
theorem dX2_sum_7 : decode cX2_sum 7 = .ok (.if_icmp .ge 18, 3) := by decide +kernel
theorem dX2_sum_10 : decode cX2_sum 10 = .ok (.iload_n 2, 1) := by decide +kernel
theorem dX2_sum_11 : decode cX2_sum 11 = .ok (.aload_n 0, 1) := by decide +kernel
theorem dX2_sum_12 : decode cX2_sum 12 = .ok (.iload_n 3, 1) := by decide +kernel
theorem dX2_sum_13 : decode cX2_sum 13 = .ok (.iload_n 1, 1) := by decide +kernel
theorem dX2_sum_14 : decode cX2_sum 14 = .ok (.invokevirtual 40, 3) := by decide +kernel
theorem dX2_sum_17 : decode cX2_sum 17 = .ok (.iadd, 1) := by decide +kernel
theorem dX2_sum_18 : decode cX2_sum 18 = .ok (.istore_n 2, 1) := by decide +kernel
theorem dX2_sum_19 : decode cX2_sum 19 = .ok (.iinc 3 1, 3) := by decide +kernel
theorem dX2_sum_22 : decode cX2_sum 22 = .ok (.goto (-18), 3) := by decide +kernel
theorem dX2_sum_25 : decode cX2_sum 25 = .ok (.iload_n 2, 1) := by decide +kernel
theorem dX2_sum_26 : decode cX2_sum 26 = .ok (.ireturn, 1) := by decide +kernel
theorem dX2_sumUsed_0 : decode cX2_sumUsed 0 = .ok (.iconst 0, 1) := by decide +kernel
theorem dX2_sumUsed_1 : decode cX2_sumUsed 1 = .ok (.istore_n 1, 1) := by decide +kernel
theorem dX2_sumUsed_2 : decode cX2_sumUsed 2 = .ok (.iconst 0, 1) := by decide +kernel
theorem dX2_sumUsed_3 : decode cX2_sumUsed 3 = .ok (.istore_n 2, 1) := by decide +kernel
theorem dX2_sumUsed_4 : decode cX2_sumUsed 4 = .ok (.iload_n 2, 1) := by decide +kernel
theorem dX2_sumUsed_5 : decode cX2_sumUsed 5 = .ok (.bipush 6, 2) := by decide +kernel
theorem dX2_sumUsed_7 : decode cX2_sumUsed 7 = .ok (.if_icmp .ge 20, 3) := by decide +kernel
theorem dX2_sumUsed_10 : decode cX2_sumUsed 10 = .ok (.iload_n 1, 1) := by decide +kernel
theorem dX2_sumUsed_11 : decode cX2_sumUsed 11 = .ok (.aload_n 0, 1) := by decide +kernel
theorem dX2_sumUsed_12 : decode cX2_sumUsed 12 = .ok (.getfield 22, 3) := by decide +kernel
theorem dX2_sumUsed_15 : decode cX2_sumUsed 15 = .ok (.iload_n 2, 1) := by decide +kernel
theorem dX2_sumUsed_16 : decode cX2_sumUsed 16 = .ok (.invokestatic 28, 3) := by decide +kernel
theorem dX2_sumUsed_19 : decode cX2_sumUsed 19 = .ok (.iadd, 1) := by decide +kernel
theorem dX2_sumUsed_20 : decode cX2_sumUsed 20 = .ok (.istore_n 1, 1) := by decide +kernel
theorem dX2_sumUsed_21 : decode cX2_sumUsed 21 = .ok (.iinc 2 1, 3) := by decide +kernel
theorem dX2_sumUsed_24 : decode cX2_sumUsed 24 = .ok (.goto (-20), 3) := by decide +kernel
theorem dX2_sumUsed_27 : decode cX2_sumUsed 27 = .ok (.iload_n 1, 1) := by decide +kernel
theorem dX2_sumUsed_28 : decode cX2_sumUsed 28 = .ok (.ireturn, 1) := by decide +kernel
theorem dX3_copy_0 : decode cX3_copy 0 = .ok (.iconst 0, 1) := by decide +kernel
theorem dX3_copy_1 : decode cX3_copy 1 = .ok (.istore_n 2, 1) := by decide +kernel
theorem dX3_copy_2 : decode cX3_copy 2 = .ok (.iload_n 2, 1) := by decide +kernel
theorem dX3_copy_3 : decode cX3_copy 3 = .ok (.bipush 6, 2) := by decide +kernel
theorem dX3_copy_5 : decode cX3_copy 5 = .ok (.if_icmp .ge 41, 3) := by decide +kernel
theorem dX3_copy_8 : decode cX3_copy 8 = .ok (.aload_n 0, 1) := by decide +kernel
theorem dX3_copy_9 : decode cX3_copy 9 = .ok (.getfield 9, 3) := by decide +kernel
theorem dX3_copy_12 : decode cX3_copy 12 = .ok (.iload_n 2, 1) := by decide +kernel
theorem dX3_copy_13 : decode cX3_copy 13 = .ok (.aload_n 1, 1) := by decide +kernel
theorem dX3_copy_14 : decode cX3_copy 14 = .ok (.getfield 9, 3) := by decide +kernel
theorem dX3_copy_17 : decode cX3_copy 17 = .ok (.iload_n 2, 1) := by decide +kernel
theorem dX3_copy_18 : decode cX3_copy 18 = .ok (.invokestatic 34, 3) := by decide +kernel
theorem dX3_copy_21 : decode cX3_copy 21 = .ok (.invokestatic 38, 3) := by decide +kernel
theorem dX3_copy_24 : decode cX3_copy 24 = .ok (.aload_n 0, 1) := by decide +kernel
theorem dX3_copy_25 : decode cX3_copy 25 = .ok (.getfield 15, 3) := by decide +kernel
theorem dX3_copy_28 : decode cX3_copy 28 = .ok (.iload_n 2, 1) := by decide +kernel
theorem dX3_copy_29 : decode cX3_copy 29 = .ok (.aload_n 1, 1) := by decide +kernel
theorem dX3_copy_30 : decode cX3_copy 30 = .ok (.getfield 15, 3) := by decide +kernel
theorem dX3_copy_33 : decode cX3_copy 33 = .ok (.iload_n 2, 1) := by decide +kernel
theorem dX3_copy_34 : decode cX3_copy 34 = .ok (.invokestatic 34, 3) := by decide +kernel
theorem dX3_copy_37 : decode cX3_copy 37 = .ok (.invokestatic 38, 3) := by decide +kernel
theorem dX3_copy_40 : decode cX3_copy 40 = .ok (.iinc 2 1, 3) := by decide +kernel
theorem dX3_copy_43 : decode cX3_copy 43 = .ok (.goto (-41), 3) := by decide +kernel
theorem dX3_copy_46 : decode cX3_copy 46 = .ok (.aload_n 0, 1) := by decide +kernel
theorem dX3_copy_47 : decode cX3_copy 47 = .ok (.aload_n 1, 1) := by decide +kernel
theorem dX3_copy_48 : decode cX3_copy 48 = .ok (.getfield 18, 3) := by decide +kernel
theorem dX3_copy_51 : decode cX3_copy 51 = .ok (.putfield 18, 3) := by decide +kernel
theorem dX3_copy_54 : decode cX3_copy 54 = .ok (.aload_n 0, 1) := by decide +kernel
theorem dX3_copy_55 : decode cX3_copy 55 = .ok (.aload_n 1, 1) := by decide +kernel
theorem dX3_copy_56 : decode cX3_copy 56 = .ok (.getfield 22, 3) := by decide +kernel
theorem dX3_copy_59 : decode cX3_copy 59 = .ok (.putfield 22, 3) := by decide +kernel
theorem dX3_copy_62 : decode cX3_copy 62 = .ok (.aload_n 0, 1) := by decide +kernel
theorem dX3_copy_63 : decode cX3_copy 63 = .ok (.aload_n 1, 1) := by decide +kernel
theorem dX3_copy_64 : decode cX3_copy 64 = .ok (.getfield 25, 3) := by decide +kernel
theorem dX3_copy_67 : decode cX3_copy 67 = .ok (.putfield 25, 3) := by decide +kernel
theorem dX3_copy_70 : decode cX3_copy 70 = .ok (.aload_n 0, 1) := by decide +kernel
theorem dX3_copy_71 : decode cX3_copy 71 = .ok (.aload_n 1, 1) := by decide +kernel
theorem dX3_copy_72 : decode cX3_copy 72 = .ok (.getfield 28, 3) := by decide +kernel
theorem dX3_copy_75 : decode cX3_copy 75 = .ok (.putfield 28, 3) := by decide +kernel
theorem dX3_copy_78 : decode cX3_copy 78 = .ok (.aload_n 0, 1) := by decide +kernel
theorem dX3_copy_79 : decode cX3_copy 79 = .ok (.aload_n 1, 1) := by decide +kernel
theorem dX3_copy_80 : decode cX3_copy 80 = .ok (.getfield 42, 3) := by decide +kernel
theorem dX3_copy_83 : decode cX3_copy 83 = .ok (.putfield 42, 3) := by decide +kernel
theorem dX3_copy_86 : decode cX3_copy 86 = .ok (.aload_n 0, 1) := by decide +kernel
theorem dX3_copy_87 : decode cX3_copy 87 = .ok (.aload_n 1, 1) := by decide +kernel
theorem dX3_copy_88 : decode cX3_copy 88 = .ok (.getfield 45, 3) := by decide +kernel
theorem dX3_copy_91 : decode cX3_copy 91 = .ok (.putfield 45, 3) := by decide +kernel
theorem dX3_copy_94 : decode cX3_copy 94 = .ok (.aload_n 0, 1) := by decide +kernel
theorem dX3_copy_95 : decode cX3_copy 95 = .ok (.aload_n 1, 1) := by decide +kernel
theorem dX3_copy_96 : decode cX3_copy 96 = .ok (.getfield 31, 3) := by decide +kernel
theorem dX3_copy_99 : decode cX3_copy 99 = .ok (.putfield 31, 3) := by decide +kernel
theorem dX3_copy_102 : decode cX3_copy 102 = .ok (.return_, 1) := by decide +kernel
theorem dX3_init_0 : decode cX3_init 0 = .ok (.aload_n 0, 1) := by decide +kernel
theorem dX3_init_1 : decode cX3_init 1 = .ok (.invokespecial 3, 3) := by decide +kernel
theorem dX3_init_4 : decode cX3_init 4 = .ok (.aload_n 0, 1) := by decide +kernel
theorem dX3_init_5 : decode cX3_init 5 = .ok (.bipush 6, 2) := by decide +kernel
theorem dX3_init_7 : decode cX3_init 7 = .ok (.newarray .int, 2) := by decide +kernel
theorem dX3_init_9 : decode cX3_init 9 = .ok (.putfield 9, 3) := by decide +kernel
theorem dX3_init_12 : decode cX3_init 12 = .ok (.aload_n 0, 1) := by decide +kernel
theorem dX3_init_13 : decode cX3_init 13 = .ok (.bipush 6, 2) := by decide +kernel
theorem dX3_init_15 : decode cX3_init 15 = .ok (.newarray .int, 2) := by decide +kernel
theorem dX3_init_17 : decode cX3_init 17 = .ok (.putfield 15, 3) := by decide +kernel
theorem dX3_init_20 : decode cX3_init 20 = .ok (.aload_n 0, 1) := by decide +kernel
theorem dX3_init_21 : decode cX3_init 21 = .ok (.iconst 0, 1) := by decide +kernel
theorem dX3_init_22 : decode cX3_init 22 = .ok (.putfield 18, 3) := by decide +kernel
theorem dX3_init_25 : decode cX3_init 25 = .ok (.aload_n 0, 1) := by decide +kernel
theorem dX3_init_26 : decode cX3_init 26 = .ok (.bipush 30, 2) := by decide +kernel
theorem dX3_init_28 : decode cX3_init 28 = .ok (.putfield 22, 3) := by decide +kernel
theorem dX3_init_31 : decode cX3_init 31 = .ok (.aload_n 0, 1) := by decide +kernel
theorem dX3_init_32 : decode cX3_init 32 = .ok (.bipush 8, 2) := by decide +kernel
theorem dX3_init_34 : decode cX3_init 34 = .ok (.putfield 25, 3) := by decide +kernel
theorem dX3_init_37 : decode cX3_init 37 = .ok (.aload_n 0, 1) := by decide +kernel
theorem dX3_init_38 : decode cX3_init 38 = .ok (.bipush 18, 2) := by decide +kernel
theorem dX3_init_40 : decode cX3_init 40 = .ok (.putfield 28, 3) := by decide +kernel
theorem dX3_init_43 : decode cX3_init 43 = .ok (.aload_n 0, 1) := by decide +kernel
theorem dX3_init_44 : decode cX3_init 44 = .ok (.bipush 100, 2) := by decide +kernel
theorem dX3_init_46 : decode cX3_init 46 = .ok (.putfield 31, 3) := by decide +kernel
theorem dX3_init_49 : decode cX3_init 49 = .ok (.return_, 1) := by decide +kernel
theorem dX4_account_0 : decode cX4_account 0 = .ok (.aload_n 0, 1) := by decide +kernel
theorem dX4_account_1 : decode cX4_account 1 = .ok (.iload_n 1, 1) := by decide +kernel
theorem dX4_account_2 : decode cX4_account 2 = .ok (.invokevirtual 66, 3) := by decide +kernel
theorem dX4_account_5 : decode cX4_account 5 = .ok (.iload_n 2, 1) := by decide +kernel
theorem dX4_account_6 : decode cX4_account 6 = .ok (.ifCond .eq 10, 3) := by decide +kernel
theorem dX4_account_9 : decode cX4_account 9 = .ok (.aload_n 0, 1) := by decide +kernel
theorem dX4_account_10 : decode cX4_account 10 = .ok (.getfield 38, 3) := by decide +kernel
theorem dX4_account_13 : decode cX4_account 13 = .ok (.goto 7, 3) := by decide +kernel
theorem dX4_account_16 : decode cX4_account 16 = .ok (.aload_n 0, 1) := by decide +kernel
theorem dX4_account_17 : decode cX4_account 17 = .ok (.getfield 34, 3) := by decide +kernel
theorem dX4_account_20 : decode cX4_account 20 = .ok (.iload_n 1, 1) := by decide +kernel
theorem dX4_account_21 : decode cX4_account 21 = .ok (.invokestatic 159, 3) := by decide +kernel
theorem dX4_account_24 : decode cX4_account 24 = .ok (.lreturn, 1) := by decide +kernel
theorem dX4_add_0 : decode cX4_add 0 = .ok (.aload_n 0, 1) := by decide +kernel
theorem dX4_add_1 : decode cX4_add 1 = .ok (.iload_n 1, 1) := by decide +kernel
theorem dX4_add_2 : decode cX4_add 2 = .ok (.aload_n 0, 1) := by decide +kernel
theorem dX4_add_3 : decode cX4_add 3 = .ok (.iload_n 1, 1) := by decide +kernel
theorem dX4_add_4 : decode cX4_add 4 = .ok (.invokestatic 159, 3) := by decide +kernel
theorem dX4_add_7 : decode cX4_add 7 = .ok (.lload_n 2, 1) := by decide +kernel
theorem dX4_add_8 : decode cX4_add 8 = .ok (.ladd, 1) := by decide +kernel
theorem dX4_add_9 : decode cX4_add 9 = .ok (.invokestatic 192, 3) := by decide +kernel
theorem dX4_add_12 : decode cX4_add 12 = .ok (.return_, 1) := by decide +kernel
theorem dX4_addMember_0 : decode cX4_addMember 0 = .ok (.aload_n 0, 1) := by decide +kernel
theorem dX4_addMember_1 : decode cX4_addMember 1 = .ok (.getfield 41, 3) := by decide +kernel
theorem dX4_addMember_4 : decode cX4_addMember 4 = .ok (.bipush 6, 2) := by decide +kernel
theorem dX4_addMember_6 : decode cX4_addMember 6 = .ok (.if_icmp .ge 10, 3) := by decide +kernel
theorem dX4_addMember_9 : decode cX4_addMember 9 = .ok (.aload_n 0, 1) := by decide +kernel
theorem dX4_addMember_10 : decode cX4_addMember 10 = .ok (.getfield 45, 3) := by decide +kernel
theorem dX4_addMember_13 : decode cX4_addMember 13 = .ok (.ifCond .le 13, 3) := by decide +kernel
theorem dX4_addMember_16 : decode cX4_addMember 16 = .ok (.new 48, 3) := by decide +kernel
theorem dX4_addMember_19 : decode cX4_addMember 19 = .ok (.dup, 1) := by decide +kernel
theorem dX4_addMember_20 : decode cX4_addMember 20 = .ok (.ldc 50, 2) := by decide +kernel
theorem dX4_addMember_22 : decode cX4_addMember 22 = .ok (.invokespecial 52, 3) := by decide +kernel
theorem dX4_addMember_25 : decode cX4_addMember 25 = .ok (.athrow, 1) := by decide +kernel
theorem dX4_addMember_26 : decode cX4_addMember 26 = .ok (.aload_n 0, 1) := by decide +kernel
theorem dX4_addMember_27 : decode cX4_addMember 27 = .ok (.getfield 41, 3) := by decide +kernel
theorem dX4_addMember_30 : decode cX4_addMember 30 = .ok (.istore_n 1, 1) := by decide +kernel
theorem dX4_addMember_31 : decode cX4_addMember 31 = .ok (.aload_n 0, 1) := by decide +kernel
theorem dX4_addMember_32 : decode cX4_addMember 32 = .ok (.getfield 10, 3) := by decide +kernel
theorem dX4_addMember_35 : decode cX4_addMember 35 = .ok (.getfield 55, 3) := by decide +kernel
theorem dX4_addMember_38 : decode cX4_addMember 38 = .ok (.iload_n 1, 1) := by decide +kernel
theorem dX4_addMember_39 : decode cX4_addMember 39 = .ok (.bipush 10, 2) := by decide +kernel
theorem dX4_addMember_41 : decode cX4_addMember 41 = .ok (.invokestatic 59, 3) := by decide +kernel
theorem dX4_addMember_44 : decode cX4_addMember 44 = .ok (.aload_n 0, 1) := by decide +kernel
theorem dX4_addMember_45 : decode cX4_addMember 45 = .ok (.getfield 10, 3) := by decide +kernel
theorem dX4_addMember_48 : decode cX4_addMember 48 = .ok (.getfield 63, 3) := by decide +kernel
theorem dX4_addMember_51 : decode cX4_addMember 51 = .ok (.iload_n 1, 1) := by decide +kernel
theorem dX4_addMember_52 : decode cX4_addMember 52 = .ok (.iload_n 1, 1) := by decide +kernel
theorem dX4_addMember_53 : decode cX4_addMember 53 = .ok (.invokestatic 59, 3) := by decide +kernel
theorem dX4_addMember_56 : decode cX4_addMember 56 = .ok (.aload_n 0, 1) := by decide +kernel
theorem dX4_addMember_57 : decode cX4_addMember 57 = .ok (.dup, 1) := by decide +kernel
theorem dX4_addMember_58 : decode cX4_addMember 58 = .ok (.getfield 41, 3) := by decide +kernel
theorem dX4_addMember_61 : decode cX4_addMember 61 = .ok (.iconst 1, 1) := by decide +kernel
theorem dX4_addMember_62 : decode cX4_addMember 62 = .ok (.iadd, 1) := by decide +kernel
theorem dX4_addMember_63 : decode cX4_addMember 63 = .ok (.putfield 41, 3) := by decide +kernel
theorem dX4_addMember_66 : decode cX4_addMember 66 = .ok (.iload_n 1, 1) := by decide +kernel
theorem dX4_addMember_67 : decode cX4_addMember 67 = .ok (.ireturn, 1) := by decide +kernel
theorem dX4_at_0 : decode cX4_at 0 = .ok (.aload_n 0, 1) := by decide +kernel
theorem dX4_at_1 : decode cX4_at 1 = .ok (.ifnull 19, 3) := by decide +kernel
theorem dX4_at_4 : decode cX4_at 4 = .ok (.iload_n 1, 1) := by decide +kernel
theorem dX4_at_5 : decode cX4_at 5 = .ok (.ifCond .lt 15, 3) := by decide +kernel
theorem dX4_at_8 : decode cX4_at 8 = .ok (.iload_n 1, 1) := by decide +kernel
theorem dX4_at_9 : decode cX4_at 9 = .ok (.aload_n 0, 1) := by decide +kernel
theorem dX4_at_10 : decode cX4_at 10 = .ok (.arraylength, 1) := by decide +kernel
theorem dX4_at_11 : decode cX4_at 11 = .ok (.if_icmp .ge 9, 3) := by decide +kernel
theorem dX4_at_14 : decode cX4_at 14 = .ok (.aload_n 0, 1) := by decide +kernel
theorem dX4_at_15 : decode cX4_at 15 = .ok (.iload_n 1, 1) := by decide +kernel
theorem dX4_at_16 : decode cX4_at 16 = .ok (.iaload, 1) := by decide +kernel
theorem dX4_at_17 : decode cX4_at 17 = .ok (.goto 4, 3) := by decide +kernel
theorem dX4_at_20 : decode cX4_at 20 = .ok (.iconst 0, 1) := by decide +kernel
theorem dX4_at_21 : decode cX4_at 21 = .ok (.ireturn, 1) := by decide +kernel
theorem dX4_at__0 : decode cX4_at_ 0 = .ok (.aload_n 0, 1) := by decide +kernel
theorem dX4_at__1 : decode cX4_at_ 1 = .ok (.ifnull 19, 3) := by decide +kernel
theorem dX4_at__4 : decode cX4_at_ 4 = .ok (.iload_n 1, 1) := by decide +kernel
theorem dX4_at__5 : decode cX4_at_ 5 = .ok (.ifCond .lt 15, 3) := by decide +kernel
theorem dX4_at__8 : decode cX4_at_ 8 = .ok (.iload_n 1, 1) := by decide +kernel
theorem dX4_at__9 : decode cX4_at_ 9 = .ok (.aload_n 0, 1) := by decide +kernel
theorem dX4_at__10 : decode cX4_at_ 10 = .ok (.arraylength, 1) := by decide +kernel
theorem dX4_at__11 : decode cX4_at_ 11 = .ok (.if_icmp .ge 9, 3) := by decide +kernel
theorem dX4_at__14 : decode cX4_at_ 14 = .ok (.aload_n 0, 1) := by decide +kernel
theorem dX4_at__15 : decode cX4_at_ 15 = .ok (.iload_n 1, 1) := by decide +kernel
theorem dX4_at__16 : decode cX4_at_ 16 = .ok (.laload, 1) := by decide +kernel
theorem dX4_at__17 : decode cX4_at_ 17 = .ok (.goto 4, 3) := by decide +kernel
theorem dX4_at__20 : decode cX4_at_ 20 = .ok (.lconst 0, 1) := by decide +kernel
theorem dX4_at__21 : decode cX4_at_ 21 = .ok (.lreturn, 1) := by decide +kernel
theorem dX4_bestRule_0 : decode cX4_bestRule 0 = .ok (.aload_n 0, 1) := by decide +kernel
theorem dX4_bestRule_1 : decode cX4_bestRule 1 = .ok (.iload_n 1, 1) := by decide +kernel
theorem dX4_bestRule_2 : decode cX4_bestRule 2 = .ok (.invokevirtual 66, 3) := by decide +kernel
theorem dX4_bestRule_5 : decode cX4_bestRule 5 = .ok (.aload_n 0, 1) := by decide +kernel
theorem dX4_bestRule_6 : decode cX4_bestRule 6 = .ok (.invokevirtual 172, 3) := by decide +kernel
theorem dX4_bestRule_9 : decode cX4_bestRule 9 = .ok (.iconst 0, 1) := by decide +kernel
theorem dX4_bestRule_10 : decode cX4_bestRule 10 = .ok (.istore_n 2, 1) := by decide +kernel
theorem dX4_bestRule_11 : decode cX4_bestRule 11 = .ok (.iconst 0, 1) := by decide +kernel
theorem dX4_bestRule_12 : decode cX4_bestRule 12 = .ok (.istore_n 3, 1) := by decide +kernel
theorem dX4_bestRule_13 : decode cX4_bestRule 13 = .ok (.iconst 0, 1) := by decide +kernel
theorem dX4_bestRule_14 : decode cX4_bestRule 14 = .ok (.istore 4, 2) := by decide +kernel
theorem dX4_bestRule_16 : decode cX4_bestRule 16 = .ok (.iload 4, 2) := by decide +kernel
theorem dX4_bestRule_18 : decode cX4_bestRule 18 = .ok (.iconst 4, 1) := by decide +kernel
theorem dX4_bestRule_19 : decode cX4_bestRule 19 = .ok (.if_icmp .ge 55, 3) := by decide +kernel
theorem dX4_bestRule_22 : decode cX4_bestRule 22 = .ok (.aload_n 0, 1) := by decide +kernel
theorem dX4_bestRule_23 : decode cX4_bestRule 23 = .ok (.iload 4, 2) := by decide +kernel
theorem dX4_bestRule_25 : decode cX4_bestRule 25 = .ok (.invokevirtual 175, 3) := by decide +kernel
theorem dX4_bestRule_28 : decode cX4_bestRule 28 = .ok (.aload_n 0, 1) := by decide +kernel
theorem dX4_bestRule_29 : decode cX4_bestRule 29 = .ok (.getfield 30, 3) := by decide +kernel
theorem dX4_bestRule_32 : decode cX4_bestRule 32 = .ok (.aload_n 0, 1) := by decide +kernel
theorem dX4_bestRule_33 : decode cX4_bestRule 33 = .ok (.getfield 23, 3) := by decide +kernel
theorem dX4_bestRule_36 : decode cX4_bestRule 36 = .ok (.invokevirtual 139, 3) := by decide +kernel
theorem dX4_bestRule_39 : decode cX4_bestRule 39 = .ok (.aload_n 0, 1) := by decide +kernel
theorem dX4_bestRule_40 : decode cX4_bestRule 40 = .ok (.getfield 23, 3) := by decide +kernel
theorem dX4_bestRule_43 : decode cX4_bestRule 43 = .ok (.iload_n 1, 1) := by decide +kernel
theorem dX4_bestRule_44 : decode cX4_bestRule 44 = .ok (.bipush 7, 2) := by decide +kernel
theorem dX4_bestRule_46 : decode cX4_bestRule 46 = .ok (.invokevirtual 169, 3) := by decide +kernel
theorem dX4_bestRule_49 : decode cX4_bestRule 49 = .ok (.istore 5, 2) := by decide +kernel
theorem dX4_bestRule_51 : decode cX4_bestRule 51 = .ok (.iload 4, 2) := by decide +kernel
theorem dX4_bestRule_53 : decode cX4_bestRule 53 = .ok (.ifCond .eq 9, 3) := by decide +kernel
theorem dX4_bestRule_56 : decode cX4_bestRule 56 = .ok (.iload 5, 2) := by decide +kernel
theorem dX4_bestRule_58 : decode cX4_bestRule 58 = .ok (.iload_n 3, 1) := by decide +kernel
theorem dX4_bestRule_59 : decode cX4_bestRule 59 = .ok (.if_icmp .le 9, 3) := by decide +kernel
theorem dX4_bestRule_62 : decode cX4_bestRule 62 = .ok (.iload 5, 2) := by decide +kernel
theorem dX4_bestRule_64 : decode cX4_bestRule 64 = .ok (.istore_n 3, 1) := by decide +kernel
theorem dX4_bestRule_65 : decode cX4_bestRule 65 = .ok (.iload 4, 2) := by decide +kernel
theorem dX4_bestRule_67 : decode cX4_bestRule 67 = .ok (.istore_n 2, 1) := by decide +kernel
theorem dX4_bestRule_68 : decode cX4_bestRule 68 = .ok (.iinc 4 1, 3) := by decide +kernel
theorem dX4_bestRule_71 : decode cX4_bestRule 71 = .ok (.goto (-55), 3) := by decide +kernel
theorem dX4_bestRule_74 : decode cX4_bestRule 74 = .ok (.iload_n 2, 1) := by decide +kernel
theorem dX4_bestRule_75 : decode cX4_bestRule 75 = .ok (.ireturn, 1) := by decide +kernel
theorem dX4_book_0 : decode cX4_book 0 = .ok (.aload_n 1, 1) := by decide +kernel
theorem dX4_book_1 : decode cX4_book 1 = .ok (.getfield 129, 3) := by decide +kernel
theorem dX4_book_4 : decode cX4_book 4 = .ok (.astore_n 3, 1) := by decide +kernel
theorem dX4_book_5 : decode cX4_book 5 = .ok (.iconst 0, 1) := by decide +kernel
theorem dX4_book_6 : decode cX4_book 6 = .ok (.istore 4, 2) := by decide +kernel
theorem dX4_book_8 : decode cX4_book 8 = .ok (.iload 4, 2) := by decide +kernel
theorem dX4_book_10 : decode cX4_book 10 = .ok (.aload_n 0, 1) := by decide +kernel
theorem dX4_book_11 : decode cX4_book 11 = .ok (.getfield 41, 3) := by decide +kernel
theorem dX4_book_14 : decode cX4_book 14 = .ok (.if_icmp .ge 29, 3) := by decide +kernel
theorem dX4_book_17 : decode cX4_book 17 = .ok (.aload_n 0, 1) := by decide +kernel
theorem dX4_book_18 : decode cX4_book 18 = .ok (.getfield 34, 3) := by decide +kernel
theorem dX4_book_21 : decode cX4_book 21 = .ok (.iload 4, 2) := by decide +kernel
theorem dX4_book_23 : decode cX4_book 23 = .ok (.iload_n 2, 1) := by decide +kernel
theorem dX4_book_24 : decode cX4_book 24 = .ok (.aload_n 1, 1) := by decide +kernel
theorem dX4_book_25 : decode cX4_book 25 = .ok (.iload 4, 2) := by decide +kernel
theorem dX4_book_27 : decode cX4_book 27 = .ok (.bipush 7, 2) := by decide +kernel
theorem dX4_book_29 : decode cX4_book 29 = .ok (.invokevirtual 169, 3) := by decide +kernel
theorem dX4_book_32 : decode cX4_book 32 = .ok (.imul, 1) := by decide +kernel
theorem dX4_book_33 : decode cX4_book 33 = .ok (.i2l, 1) := by decide +kernel
theorem dX4_book_34 : decode cX4_book 34 = .ok (.invokestatic 188, 3) := by decide +kernel
theorem dX4_book_37 : decode cX4_book 37 = .ok (.iinc 4 1, 3) := by decide +kernel
theorem dX4_book_40 : decode cX4_book 40 = .ok (.goto (-32), 3) := by decide +kernel
theorem dX4_book_43 : decode cX4_book 43 = .ok (.aload_n 0, 1) := by decide +kernel
theorem dX4_book_44 : decode cX4_book 44 = .ok (.dup, 1) := by decide +kernel
theorem dX4_book_45 : decode cX4_book 45 = .ok (.getfield 178, 3) := by decide +kernel
theorem dX4_book_48 : decode cX4_book 48 = .ok (.iload_n 2, 1) := by decide +kernel
theorem dX4_book_49 : decode cX4_book 49 = .ok (.aload_n 3, 1) := by decide +kernel
theorem dX4_book_50 : decode cX4_book 50 = .ok (.getfield 81, 3) := by decide +kernel
theorem dX4_book_53 : decode cX4_book 53 = .ok (.imul, 1) := by decide +kernel
theorem dX4_book_54 : decode cX4_book 54 = .ok (.aload_n 1, 1) := by decide +kernel
theorem dX4_book_55 : decode cX4_book 55 = .ok (.iconst 2, 1) := by decide +kernel
theorem dX4_book_56 : decode cX4_book 56 = .ok (.invokevirtual 150, 3) := by decide +kernel
theorem dX4_book_59 : decode cX4_book 59 = .ok (.aload_n 1, 1) := by decide +kernel
theorem dX4_book_60 : decode cX4_book 60 = .ok (.iconst 5, 1) := by decide +kernel
theorem dX4_book_61 : decode cX4_book 61 = .ok (.invokevirtual 150, 3) := by decide +kernel
theorem dX4_book_64 : decode cX4_book 64 = .ok (.isub, 1) := by decide +kernel
theorem dX4_book_65 : decode cX4_book 65 = .ok (.imul, 1) := by decide +kernel
theorem dX4_book_66 : decode cX4_book 66 = .ok (.i2l, 1) := by decide +kernel
theorem dX4_book_67 : decode cX4_book 67 = .ok (.ladd, 1) := by decide +kernel
theorem dX4_book_68 : decode cX4_book 68 = .ok (.putfield 178, 3) := by decide +kernel
theorem dX4_book_71 : decode cX4_book 71 = .ok (.aload_n 0, 1) := by decide +kernel
theorem dX4_book_72 : decode cX4_book 72 = .ok (.dup, 1) := by decide +kernel
theorem dX4_book_73 : decode cX4_book 73 = .ok (.getfield 182, 3) := by decide +kernel
theorem dX4_book_76 : decode cX4_book 76 = .ok (.iload_n 2, 1) := by decide +kernel
theorem dX4_book_77 : decode cX4_book 77 = .ok (.aload_n 3, 1) := by decide +kernel
theorem dX4_book_78 : decode cX4_book 78 = .ok (.getfield 84, 3) := by decide +kernel
theorem dX4_book_81 : decode cX4_book 81 = .ok (.aload_n 1, 1) := by decide +kernel
theorem dX4_book_82 : decode cX4_book 82 = .ok (.iconst 3, 1) := by decide +kernel
theorem dX4_book_83 : decode cX4_book 83 = .ok (.invokevirtual 150, 3) := by decide +kernel
theorem dX4_book_86 : decode cX4_book 86 = .ok (.imul, 1) := by decide +kernel
theorem dX4_book_87 : decode cX4_book 87 = .ok (.aload_n 3, 1) := by decide +kernel
theorem dX4_book_88 : decode cX4_book 88 = .ok (.getfield 87, 3) := by decide +kernel
theorem dX4_book_91 : decode cX4_book 91 = .ok (.aload_n 1, 1) := by decide +kernel
theorem dX4_book_92 : decode cX4_book 92 = .ok (.bipush 6, 2) := by decide +kernel
theorem dX4_book_94 : decode cX4_book 94 = .ok (.invokevirtual 150, 3) := by decide +kernel
theorem dX4_book_97 : decode cX4_book 97 = .ok (.imul, 1) := by decide +kernel
theorem dX4_book_98 : decode cX4_book 98 = .ok (.isub, 1) := by decide +kernel
theorem dX4_book_99 : decode cX4_book 99 = .ok (.imul, 1) := by decide +kernel
theorem dX4_book_100 : decode cX4_book 100 = .ok (.i2l, 1) := by decide +kernel
theorem dX4_book_101 : decode cX4_book 101 = .ok (.ladd, 1) := by decide +kernel
theorem dX4_book_102 : decode cX4_book 102 = .ok (.putfield 182, 3) := by decide +kernel
theorem dX4_book_105 : decode cX4_book 105 = .ok (.return_, 1) := by decide +kernel
theorem dX4_checkArgument_0 : decode cX4_checkArgument 0 = .ok (.iload_n 0, 1) := by decide +kernel
theorem dX4_checkArgument_1 : decode cX4_checkArgument 1 = .ok (.iload_n 1, 1) := by decide +kernel
theorem dX4_checkArgument_2 : decode cX4_checkArgument 2 = .ok (.if_icmp .lt 8, 3) := by decide +kernel
theorem dX4_checkArgument_5 : decode cX4_checkArgument 5 = .ok (.iload_n 0, 1) := by decide +kernel
theorem dX4_checkArgument_6 : decode cX4_checkArgument 6 = .ok (.iload_n 2, 1) := by decide +kernel
theorem dX4_checkArgument_7 : decode cX4_checkArgument 7 = .ok (.if_icmp .le 13, 3) := by decide +kernel
theorem dX4_checkArgument_10 : decode cX4_checkArgument 10 = .ok (.new 196, 3) := by decide +kernel
theorem dX4_checkArgument_13 : decode cX4_checkArgument 13 = .ok (.dup, 1) := by decide +kernel
theorem dX4_checkArgument_14 : decode cX4_checkArgument 14 = .ok (.ldc 227, 2) := by decide +kernel
theorem dX4_checkArgument_16 : decode cX4_checkArgument 16 = .ok (.invokespecial 200, 3) := by decide +kernel
theorem dX4_checkArgument_19 : decode cX4_checkArgument 19 = .ok (.athrow, 1) := by decide +kernel
theorem dX4_checkArgument_20 : decode cX4_checkArgument 20 = .ok (.return_, 1) := by decide +kernel
theorem dX4_checkIndex_0 : decode cX4_checkIndex 0 = .ok (.iload_n 0, 1) := by decide +kernel
theorem dX4_checkIndex_1 : decode cX4_checkIndex 1 = .ok (.ifCond .lt 8, 3) := by decide +kernel
theorem dX4_checkIndex_4 : decode cX4_checkIndex 4 = .ok (.iload_n 0, 1) := by decide +kernel
theorem dX4_checkIndex_5 : decode cX4_checkIndex 5 = .ok (.iload_n 1, 1) := by decide +kernel
theorem dX4_checkIndex_6 : decode cX4_checkIndex 6 = .ok (.if_icmp .lt 13, 3) := by decide +kernel
theorem dX4_checkIndex_9 : decode cX4_checkIndex 9 = .ok (.new 222, 3) := by decide +kernel
theorem dX4_checkIndex_12 : decode cX4_checkIndex 12 = .ok (.dup, 1) := by decide +kernel
theorem dX4_checkIndex_13 : decode cX4_checkIndex 13 = .ok (.ldc 224, 2) := by decide +kernel
theorem dX4_checkIndex_15 : decode cX4_checkIndex 15 = .ok (.invokespecial 226, 3) := by decide +kernel
theorem dX4_checkIndex_18 : decode cX4_checkIndex 18 = .ok (.athrow, 1) := by decide +kernel
theorem dX4_checkIndex_19 : decode cX4_checkIndex 19 = .ok (.return_, 1) := by decide +kernel
theorem dX4_checkMember_0 : decode cX4_checkMember 0 = .ok (.iload_n 1, 1) := by decide +kernel
theorem dX4_checkMember_1 : decode cX4_checkMember 1 = .ok (.aload_n 0, 1) := by decide +kernel
theorem dX4_checkMember_2 : decode cX4_checkMember 2 = .ok (.getfield 41, 3) := by decide +kernel
theorem dX4_checkMember_5 : decode cX4_checkMember 5 = .ok (.invokestatic 165, 3) := by decide +kernel
theorem dX4_checkMember_8 : decode cX4_checkMember 8 = .ok (.return_, 1) := by decide +kernel
theorem dX4_checkSlot_0 : decode cX4_checkSlot 0 = .ok (.iload_n 0, 1) := by decide +kernel
theorem dX4_checkSlot_1 : decode cX4_checkSlot 1 = .ok (.bipush 48, 2) := by decide +kernel
theorem dX4_checkSlot_3 : decode cX4_checkSlot 3 = .ok (.invokestatic 165, 3) := by decide +kernel
theorem dX4_checkSlot_6 : decode cX4_checkSlot 6 = .ok (.return_, 1) := by decide +kernel
theorem dX4_checkSlotIsLeft_0 : decode cX4_checkSlotIsLeft 0 = .ok (.aload_n 0, 1) := by decide +kernel
theorem dX4_checkSlotIsLeft_1 : decode cX4_checkSlotIsLeft 1 = .ok (.getfield 45, 3) := by decide +kernel
theorem dX4_checkSlotIsLeft_4 : decode cX4_checkSlotIsLeft 4 = .ok (.bipush 48, 2) := by decide +kernel
theorem dX4_checkSlotIsLeft_6 : decode cX4_checkSlotIsLeft 6 = .ok (.if_icmp .lt 13, 3) := by decide +kernel
theorem dX4_checkSlotIsLeft_9 : decode cX4_checkSlotIsLeft 9 = .ok (.new 48, 3) := by decide +kernel
theorem dX4_checkSlotIsLeft_12 : decode cX4_checkSlotIsLeft 12 = .ok (.dup, 1) := by decide +kernel
theorem dX4_checkSlotIsLeft_13 : decode cX4_checkSlotIsLeft 13 = .ok (.ldc 229, 2) := by decide +kernel
theorem dX4_checkSlotIsLeft_15 : decode cX4_checkSlotIsLeft 15 = .ok (.invokespecial 52, 3) := by decide +kernel
theorem dX4_checkSlotIsLeft_18 : decode cX4_checkSlotIsLeft 18 = .ok (.athrow, 1) := by decide +kernel
theorem dX4_checkSlotIsLeft_19 : decode cX4_checkSlotIsLeft 19 = .ok (.return_, 1) := by decide +kernel
theorem dX4_close_0 : decode cX4_close 0 = .ok (.aload_n 0, 1) := by decide +kernel
theorem dX4_close_1 : decode cX4_close 1 = .ok (.getfield 45, 3) := by decide +kernel
theorem dX4_close_4 : decode cX4_close 4 = .ok (.bipush 48, 2) := by decide +kernel
theorem dX4_close_6 : decode cX4_close 6 = .ok (.if_icmp .ge 10, 3) := by decide +kernel
theorem dX4_close_9 : decode cX4_close 9 = .ok (.aload_n 0, 1) := by decide +kernel
theorem dX4_close_10 : decode cX4_close 10 = .ok (.getfield 41, 3) := by decide +kernel
theorem dX4_close_13 : decode cX4_close 13 = .ok (.ifCond .ne 13, 3) := by decide +kernel
theorem dX4_close_16 : decode cX4_close 16 = .ok (.new 48, 3) := by decide +kernel
theorem dX4_close_19 : decode cX4_close 19 = .ok (.dup, 1) := by decide +kernel
theorem dX4_close_20 : decode cX4_close 20 = .ok (.ldc 127, 2) := by decide +kernel
theorem dX4_close_22 : decode cX4_close 22 = .ok (.invokespecial 52, 3) := by decide +kernel
theorem dX4_close_25 : decode cX4_close 25 = .ok (.athrow, 1) := by decide +kernel
theorem dX4_close_26 : decode cX4_close 26 = .ok (.aload_n 0, 1) := by decide +kernel
theorem dX4_close_27 : decode cX4_close 27 = .ok (.aload_n 0, 1) := by decide +kernel
theorem dX4_close_28 : decode cX4_close 28 = .ok (.getfield 45, 3) := by decide +kernel
theorem dX4_close_31 : decode cX4_close 31 = .ok (.invokevirtual 113, 3) := by decide +kernel
theorem dX4_close_34 : decode cX4_close 34 = .ok (.astore_n 1, 1) := by decide +kernel
theorem dX4_close_35 : decode cX4_close 35 = .ok (.aload_n 1, 1) := by decide +kernel
theorem dX4_close_36 : decode cX4_close 36 = .ok (.getfield 129, 3) := by decide +kernel
theorem dX4_close_39 : decode cX4_close 39 = .ok (.aload_n 0, 1) := by decide +kernel
theorem dX4_close_40 : decode cX4_close 40 = .ok (.getfield 10, 3) := by decide +kernel
theorem dX4_close_43 : decode cX4_close 43 = .ok (.invokevirtual 132, 3) := by decide +kernel
theorem dX4_close_46 : decode cX4_close 46 = .ok (.aload_n 1, 1) := by decide +kernel
theorem dX4_close_47 : decode cX4_close 47 = .ok (.aload_n 0, 1) := by decide +kernel
theorem dX4_close_48 : decode cX4_close 48 = .ok (.getfield 99, 3) := by decide +kernel
theorem dX4_close_51 : decode cX4_close 51 = .ok (.putfield 136, 3) := by decide +kernel
theorem dX4_close_54 : decode cX4_close 54 = .ok (.aload_n 0, 1) := by decide +kernel
theorem dX4_close_55 : decode cX4_close 55 = .ok (.getfield 30, 3) := by decide +kernel
theorem dX4_close_58 : decode cX4_close 58 = .ok (.aload_n 1, 1) := by decide +kernel
theorem dX4_close_59 : decode cX4_close 59 = .ok (.invokevirtual 139, 3) := by decide +kernel
theorem dX4_close_62 : decode cX4_close 62 = .ok (.aload_n 0, 1) := by decide +kernel
theorem dX4_close_63 : decode cX4_close 63 = .ok (.aload_n 1, 1) := by decide +kernel
theorem dX4_close_64 : decode cX4_close 64 = .ok (.iconst 1, 1) := by decide +kernel
theorem dX4_close_65 : decode cX4_close 65 = .ok (.invokevirtual 143, 3) := by decide +kernel
theorem dX4_close_68 : decode cX4_close 68 = .ok (.aload_n 0, 1) := by decide +kernel
theorem dX4_close_69 : decode cX4_close 69 = .ok (.aload_n 1, 1) := by decide +kernel
theorem dX4_close_70 : decode cX4_close 70 = .ok (.getfield 147, 3) := by decide +kernel
theorem dX4_close_73 : decode cX4_close 73 = .ok (.putfield 99, 3) := by decide +kernel
theorem dX4_close_76 : decode cX4_close 76 = .ok (.aload_n 0, 1) := by decide +kernel
theorem dX4_close_77 : decode cX4_close 77 = .ok (.dup, 1) := by decide +kernel
theorem dX4_close_78 : decode cX4_close 78 = .ok (.getfield 45, 3) := by decide +kernel
theorem dX4_close_81 : decode cX4_close 81 = .ok (.iconst 1, 1) := by decide +kernel
theorem dX4_close_82 : decode cX4_close 82 = .ok (.iadd, 1) := by decide +kernel
theorem dX4_close_83 : decode cX4_close 83 = .ok (.putfield 45, 3) := by decide +kernel
theorem dX4_close_86 : decode cX4_close 86 = .ok (.aload_n 1, 1) := by decide +kernel
theorem dX4_close_87 : decode cX4_close 87 = .ok (.iconst 1, 1) := by decide +kernel
theorem dX4_close_88 : decode cX4_close 88 = .ok (.invokevirtual 150, 3) := by decide +kernel
theorem dX4_close_91 : decode cX4_close 91 = .ok (.ireturn, 1) := by decide +kernel
theorem dX4_common_0 : decode cX4_common 0 = .ok (.iload_n 1, 1) := by decide +kernel
theorem dX4_common_1 : decode cX4_common 1 = .ok (.iconst 3, 1) := by decide +kernel
theorem dX4_common_2 : decode cX4_common 2 = .ok (.invokestatic 165, 3) := by decide +kernel
theorem dX4_common_5 : decode cX4_common 5 = .ok (.iload_n 1, 1) := by decide +kernel
theorem dX4_common_6 : decode cX4_common 6 = .ok (.ifCond .ne 8, 3) := by decide +kernel
theorem dX4_common_9 : decode cX4_common 9 = .ok (.aload_n 0, 1) := by decide +kernel
theorem dX4_common_10 : decode cX4_common 10 = .ok (.getfield 178, 3) := by decide +kernel
theorem dX4_common_13 : decode cX4_common 13 = .ok (.lreturn, 1) := by decide +kernel
theorem dX4_common_14 : decode cX4_common 14 = .ok (.iload_n 1, 1) := by decide +kernel
theorem dX4_common_15 : decode cX4_common 15 = .ok (.iconst 1, 1) := by decide +kernel
theorem dX4_common_16 : decode cX4_common 16 = .ok (.if_icmp .ne 10, 3) := by decide +kernel
theorem dX4_common_19 : decode cX4_common 19 = .ok (.aload_n 0, 1) := by decide +kernel
theorem dX4_common_20 : decode cX4_common 20 = .ok (.getfield 182, 3) := by decide +kernel
theorem dX4_common_23 : decode cX4_common 23 = .ok (.goto 7, 3) := by decide +kernel
theorem dX4_common_26 : decode cX4_common 26 = .ok (.aload_n 0, 1) := by decide +kernel
theorem dX4_common_27 : decode cX4_common 27 = .ok (.getfield 185, 3) := by decide +kernel
theorem dX4_common_30 : decode cX4_common 30 = .ok (.lreturn, 1) := by decide +kernel
theorem dX4_content_0 : decode cX4_content 0 = .ok (.aload_n 0, 1) := by decide +kernel
theorem dX4_content_1 : decode cX4_content 1 = .ok (.getfield 99, 3) := by decide +kernel
theorem dX4_content_4 : decode cX4_content 4 = .ok (.ireturn, 1) := by decide +kernel
theorem dX4_contentAt_0 : decode cX4_contentAt 0 = .ok (.iload_n 1, 1) := by decide +kernel
theorem dX4_contentAt_1 : decode cX4_contentAt 1 = .ok (.invokestatic 108, 3) := by decide +kernel
theorem dX4_contentAt_4 : decode cX4_contentAt 4 = .ok (.iload_n 1, 1) := by decide +kernel
theorem dX4_contentAt_5 : decode cX4_contentAt 5 = .ok (.aload_n 0, 1) := by decide +kernel
theorem dX4_contentAt_6 : decode cX4_contentAt 6 = .ok (.getfield 45, 3) := by decide +kernel
theorem dX4_contentAt_9 : decode cX4_contentAt 9 = .ok (.if_icmp .ge 14, 3) := by decide +kernel
theorem dX4_contentAt_12 : decode cX4_contentAt 12 = .ok (.aload_n 0, 1) := by decide +kernel
theorem dX4_contentAt_13 : decode cX4_contentAt 13 = .ok (.iload_n 1, 1) := by decide +kernel
theorem dX4_contentAt_14 : decode cX4_contentAt 14 = .ok (.invokevirtual 113, 3) := by decide +kernel
theorem dX4_contentAt_17 : decode cX4_contentAt 17 = .ok (.getfield 136, 3) := by decide +kernel
theorem dX4_contentAt_20 : decode cX4_contentAt 20 = .ok (.goto 4, 3) := by decide +kernel
theorem dX4_contentAt_23 : decode cX4_contentAt 23 = .ok (.iconst (-1), 1) := by decide +kernel
theorem dX4_contentAt_24 : decode cX4_contentAt 24 = .ok (.ireturn, 1) := by decide +kernel
theorem dX4_correct_0 : decode cX4_correct 0 = .ok (.aload_n 0, 1) := by decide +kernel
theorem dX4_correct_1 : decode cX4_correct 1 = .ok (.iload_n 1, 1) := by decide +kernel
theorem dX4_correct_2 : decode cX4_correct 2 = .ok (.invokevirtual 66, 3) := by decide +kernel
theorem dX4_correct_5 : decode cX4_correct 5 = .ok (.iload_n 2, 1) := by decide +kernel
theorem dX4_correct_6 : decode cX4_correct 6 = .ok (.invokestatic 108, 3) := by decide +kernel
theorem dX4_correct_9 : decode cX4_correct 9 = .ok (.iload_n 3, 1) := by decide +kernel
theorem dX4_correct_10 : decode cX4_correct 10 = .ok (.iconst 0, 1) := by decide +kernel
theorem dX4_correct_11 : decode cX4_correct 11 = .ok (.sipush 5000, 3) := by decide +kernel
theorem dX4_correct_14 : decode cX4_correct 14 = .ok (.invokestatic 70, 3) := by decide +kernel
theorem dX4_correct_17 : decode cX4_correct 17 = .ok (.iload 4, 2) := by decide +kernel
theorem dX4_correct_19 : decode cX4_correct 19 = .ok (.iconst 0, 1) := by decide +kernel
theorem dX4_correct_20 : decode cX4_correct 20 = .ok (.sipush 5000, 3) := by decide +kernel
theorem dX4_correct_23 : decode cX4_correct 23 = .ok (.invokestatic 70, 3) := by decide +kernel
theorem dX4_correct_26 : decode cX4_correct 26 = .ok (.iload_n 2, 1) := by decide +kernel
theorem dX4_correct_27 : decode cX4_correct 27 = .ok (.aload_n 0, 1) := by decide +kernel
theorem dX4_correct_28 : decode cX4_correct 28 = .ok (.getfield 45, 3) := by decide +kernel
theorem dX4_correct_31 : decode cX4_correct 31 = .ok (.if_icmp .ge 11, 3) := by decide +kernel
theorem dX4_correct_34 : decode cX4_correct 34 = .ok (.iload_n 2, 1) := by decide +kernel
theorem dX4_correct_35 : decode cX4_correct 35 = .ok (.aload_n 0, 1) := by decide +kernel
theorem dX4_correct_36 : decode cX4_correct 36 = .ok (.getfield 154, 3) := by decide +kernel
theorem dX4_correct_39 : decode cX4_correct 39 = .ok (.if_icmp .ge 13, 3) := by decide +kernel
theorem dX4_correct_42 : decode cX4_correct 42 = .ok (.new 48, 3) := by decide +kernel
theorem dX4_correct_45 : decode cX4_correct 45 = .ok (.dup, 1) := by decide +kernel
theorem dX4_correct_46 : decode cX4_correct 46 = .ok (.ldc 157, 2) := by decide +kernel
theorem dX4_correct_48 : decode cX4_correct 48 = .ok (.invokespecial 52, 3) := by decide +kernel
theorem dX4_correct_51 : decode cX4_correct 51 = .ok (.athrow, 1) := by decide +kernel
theorem dX4_correct_52 : decode cX4_correct 52 = .ok (.aload_n 0, 1) := by decide +kernel
theorem dX4_correct_53 : decode cX4_correct 53 = .ok (.getfield 34, 3) := by decide +kernel
theorem dX4_correct_56 : decode cX4_correct 56 = .ok (.iload_n 1, 1) := by decide +kernel
theorem dX4_correct_57 : decode cX4_correct 57 = .ok (.invokestatic 159, 3) := by decide +kernel
theorem dX4_correct_60 : decode cX4_correct 60 = .ok (.lstore 5, 2) := by decide +kernel
theorem dX4_correct_62 : decode cX4_correct 62 = .ok (.aload_n 0, 1) := by decide +kernel
theorem dX4_correct_63 : decode cX4_correct 63 = .ok (.iload_n 2, 1) := by decide +kernel
theorem dX4_correct_64 : decode cX4_correct 64 = .ok (.invokevirtual 113, 3) := by decide +kernel
theorem dX4_correct_67 : decode cX4_correct 67 = .ok (.astore 7, 2) := by decide +kernel
theorem dX4_correct_69 : decode cX4_correct 69 = .ok (.aload 7, 2) := by decide +kernel
theorem dX4_correct_71 : decode cX4_correct 71 = .ok (.iload_n 1, 1) := by decide +kernel
theorem dX4_correct_72 : decode cX4_correct 72 = .ok (.iload_n 3, 1) := by decide +kernel
theorem dX4_correct_73 : decode cX4_correct 73 = .ok (.iload 4, 2) := by decide +kernel
theorem dX4_correct_75 : decode cX4_correct 75 = .ok (.invokevirtual 117, 3) := by decide +kernel
theorem dX4_correct_78 : decode cX4_correct 78 = .ok (.pop, 1) := by decide +kernel
theorem dX4_correct_79 : decode cX4_correct 79 = .ok (.aload 7, 2) := by decide +kernel
theorem dX4_correct_81 : decode cX4_correct 81 = .ok (.getfield 136, 3) := by decide +kernel
theorem dX4_correct_84 : decode cX4_correct 84 = .ok (.istore 8, 2) := by decide +kernel
theorem dX4_correct_86 : decode cX4_correct 86 = .ok (.iload_n 2, 1) := by decide +kernel
theorem dX4_correct_87 : decode cX4_correct 87 = .ok (.istore 9, 2) := by decide +kernel
theorem dX4_correct_89 : decode cX4_correct 89 = .ok (.iload 9, 2) := by decide +kernel
theorem dX4_correct_91 : decode cX4_correct 91 = .ok (.aload_n 0, 1) := by decide +kernel
theorem dX4_correct_92 : decode cX4_correct 92 = .ok (.getfield 45, 3) := by decide +kernel
theorem dX4_correct_95 : decode cX4_correct 95 = .ok (.if_icmp .ge 65, 3) := by decide +kernel
theorem dX4_correct_98 : decode cX4_correct 98 = .ok (.aload_n 0, 1) := by decide +kernel
theorem dX4_correct_99 : decode cX4_correct 99 = .ok (.iload 9, 2) := by decide +kernel
theorem dX4_correct_101 : decode cX4_correct 101 = .ok (.invokevirtual 113, 3) := by decide +kernel
theorem dX4_correct_104 : decode cX4_correct 104 = .ok (.astore 10, 2) := by decide +kernel
theorem dX4_correct_106 : decode cX4_correct 106 = .ok (.aload_n 0, 1) := by decide +kernel
theorem dX4_correct_107 : decode cX4_correct 107 = .ok (.aload 10, 2) := by decide +kernel
theorem dX4_correct_109 : decode cX4_correct 109 = .ok (.iconst (-1), 1) := by decide +kernel
theorem dX4_correct_110 : decode cX4_correct 110 = .ok (.invokevirtual 143, 3) := by decide +kernel
theorem dX4_correct_113 : decode cX4_correct 113 = .ok (.aload 10, 2) := by decide +kernel
theorem dX4_correct_115 : decode cX4_correct 115 = .ok (.iload 8, 2) := by decide +kernel
theorem dX4_correct_117 : decode cX4_correct 117 = .ok (.aload 10, 2) := by decide +kernel
theorem dX4_correct_119 : decode cX4_correct 119 = .ok (.getfield 129, 3) := by decide +kernel
theorem dX4_correct_122 : decode cX4_correct 122 = .ok (.getfield 90, 3) := by decide +kernel
theorem dX4_correct_125 : decode cX4_correct 125 = .ok (.invokestatic 102, 3) := by decide +kernel
theorem dX4_correct_128 : decode cX4_correct 128 = .ok (.putfield 136, 3) := by decide +kernel
theorem dX4_correct_131 : decode cX4_correct 131 = .ok (.aload_n 0, 1) := by decide +kernel
theorem dX4_correct_132 : decode cX4_correct 132 = .ok (.getfield 30, 3) := by decide +kernel
theorem dX4_correct_135 : decode cX4_correct 135 = .ok (.aload 10, 2) := by decide +kernel
theorem dX4_correct_137 : decode cX4_correct 137 = .ok (.invokevirtual 139, 3) := by decide +kernel
theorem dX4_correct_140 : decode cX4_correct 140 = .ok (.aload_n 0, 1) := by decide +kernel
theorem dX4_correct_141 : decode cX4_correct 141 = .ok (.aload 10, 2) := by decide +kernel
theorem dX4_correct_143 : decode cX4_correct 143 = .ok (.iconst 1, 1) := by decide +kernel
theorem dX4_correct_144 : decode cX4_correct 144 = .ok (.invokevirtual 143, 3) := by decide +kernel
theorem dX4_correct_147 : decode cX4_correct 147 = .ok (.aload 10, 2) := by decide +kernel
theorem dX4_correct_149 : decode cX4_correct 149 = .ok (.getfield 147, 3) := by decide +kernel
theorem dX4_correct_152 : decode cX4_correct 152 = .ok (.istore 8, 2) := by decide +kernel
theorem dX4_correct_154 : decode cX4_correct 154 = .ok (.iinc 9 1, 3) := by decide +kernel
theorem dX4_correct_157 : decode cX4_correct 157 = .ok (.goto (-68), 3) := by decide +kernel
theorem dX4_correct_160 : decode cX4_correct 160 = .ok (.aload_n 0, 1) := by decide +kernel
theorem dX4_correct_161 : decode cX4_correct 161 = .ok (.iload 8, 2) := by decide +kernel
theorem dX4_correct_163 : decode cX4_correct 163 = .ok (.aload_n 0, 1) := by decide +kernel
theorem dX4_correct_164 : decode cX4_correct 164 = .ok (.getfield 10, 3) := by decide +kernel
theorem dX4_correct_167 : decode cX4_correct 167 = .ok (.getfield 90, 3) := by decide +kernel
theorem dX4_correct_170 : decode cX4_correct 170 = .ok (.invokestatic 102, 3) := by decide +kernel
theorem dX4_correct_173 : decode cX4_correct 173 = .ok (.putfield 99, 3) := by decide +kernel
theorem dX4_correct_176 : decode cX4_correct 176 = .ok (.aload_n 0, 1) := by decide +kernel
theorem dX4_correct_177 : decode cX4_correct 177 = .ok (.dup, 1) := by decide +kernel
theorem dX4_correct_178 : decode cX4_correct 178 = .ok (.getfield 162, 3) := by decide +kernel
theorem dX4_correct_181 : decode cX4_correct 181 = .ok (.iconst 1, 1) := by decide +kernel
theorem dX4_correct_182 : decode cX4_correct 182 = .ok (.iadd, 1) := by decide +kernel
theorem dX4_correct_183 : decode cX4_correct 183 = .ok (.putfield 162, 3) := by decide +kernel
theorem dX4_correct_186 : decode cX4_correct 186 = .ok (.aload_n 0, 1) := by decide +kernel
theorem dX4_correct_187 : decode cX4_correct 187 = .ok (.getfield 34, 3) := by decide +kernel
theorem dX4_correct_190 : decode cX4_correct 190 = .ok (.iload_n 1, 1) := by decide +kernel
theorem dX4_correct_191 : decode cX4_correct 191 = .ok (.invokestatic 159, 3) := by decide +kernel
theorem dX4_correct_194 : decode cX4_correct 194 = .ok (.lload 5, 2) := by decide +kernel
theorem dX4_correct_196 : decode cX4_correct 196 = .ok (.lsub, 1) := by decide +kernel
theorem dX4_correct_197 : decode cX4_correct 197 = .ok (.lreturn, 1) := by decide +kernel
theorem dX4_corrections_0 : decode cX4_corrections 0 = .ok (.aload_n 0, 1) := by decide +kernel
theorem dX4_corrections_1 : decode cX4_corrections 1 = .ok (.getfield 162, 3) := by decide +kernel
theorem dX4_corrections_4 : decode cX4_corrections 4 = .ok (.ireturn, 1) := by decide +kernel
theorem dX4_digest_0 : decode cX4_digest 0 = .ok (.ldc2_w 207, 3) := by decide +kernel
theorem dX4_digest_3 : decode cX4_digest 3 = .ok (.lstore_n 1, 1) := by decide +kernel
theorem dX4_digest_4 : decode cX4_digest 4 = .ok (.lload_n 1, 1) := by decide +kernel
theorem dX4_digest_5 : decode cX4_digest 5 = .ok (.aload_n 0, 1) := by decide +kernel
theorem dX4_digest_6 : decode cX4_digest 6 = .ok (.getfield 41, 3) := by decide +kernel
theorem dX4_digest_9 : decode cX4_digest 9 = .ok (.i2l, 1) := by decide +kernel
theorem dX4_digest_10 : decode cX4_digest 10 = .ok (.invokestatic 209, 3) := by decide +kernel
theorem dX4_digest_13 : decode cX4_digest 13 = .ok (.lstore_n 1, 1) := by decide +kernel
theorem dX4_digest_14 : decode cX4_digest 14 = .ok (.lload_n 1, 1) := by decide +kernel
theorem dX4_digest_15 : decode cX4_digest 15 = .ok (.aload_n 0, 1) := by decide +kernel
theorem dX4_digest_16 : decode cX4_digest 16 = .ok (.getfield 45, 3) := by decide +kernel
theorem dX4_digest_19 : decode cX4_digest 19 = .ok (.i2l, 1) := by decide +kernel
theorem dX4_digest_20 : decode cX4_digest 20 = .ok (.invokestatic 209, 3) := by decide +kernel
theorem dX4_digest_23 : decode cX4_digest 23 = .ok (.lstore_n 1, 1) := by decide +kernel
theorem dX4_digest_24 : decode cX4_digest 24 = .ok (.lload_n 1, 1) := by decide +kernel
theorem dX4_digest_25 : decode cX4_digest 25 = .ok (.aload_n 0, 1) := by decide +kernel
theorem dX4_digest_26 : decode cX4_digest 26 = .ok (.getfield 99, 3) := by decide +kernel
theorem dX4_digest_29 : decode cX4_digest 29 = .ok (.i2l, 1) := by decide +kernel
theorem dX4_digest_30 : decode cX4_digest 30 = .ok (.invokestatic 209, 3) := by decide +kernel
theorem dX4_digest_33 : decode cX4_digest 33 = .ok (.lstore_n 1, 1) := by decide +kernel
theorem dX4_digest_34 : decode cX4_digest 34 = .ok (.lload_n 1, 1) := by decide +kernel
theorem dX4_digest_35 : decode cX4_digest 35 = .ok (.aload_n 0, 1) := by decide +kernel
theorem dX4_digest_36 : decode cX4_digest 36 = .ok (.getfield 10, 3) := by decide +kernel
theorem dX4_digest_39 : decode cX4_digest 39 = .ok (.getfield 78, 3) := by decide +kernel
theorem dX4_digest_42 : decode cX4_digest 42 = .ok (.i2l, 1) := by decide +kernel
theorem dX4_digest_43 : decode cX4_digest 43 = .ok (.invokestatic 209, 3) := by decide +kernel
theorem dX4_digest_46 : decode cX4_digest 46 = .ok (.lstore_n 1, 1) := by decide +kernel
theorem dX4_digest_47 : decode cX4_digest 47 = .ok (.iconst 0, 1) := by decide +kernel
theorem dX4_digest_48 : decode cX4_digest 48 = .ok (.istore_n 3, 1) := by decide +kernel
theorem dX4_digest_49 : decode cX4_digest 49 = .ok (.iload_n 3, 1) := by decide +kernel
theorem dX4_digest_50 : decode cX4_digest 50 = .ok (.aload_n 0, 1) := by decide +kernel
theorem dX4_digest_51 : decode cX4_digest 51 = .ok (.getfield 41, 3) := by decide +kernel
theorem dX4_digest_54 : decode cX4_digest 54 = .ok (.if_icmp .ge 69, 3) := by decide +kernel
theorem dX4_digest_57 : decode cX4_digest 57 = .ok (.lload_n 1, 1) := by decide +kernel
theorem dX4_digest_58 : decode cX4_digest 58 = .ok (.aload_n 0, 1) := by decide +kernel
theorem dX4_digest_59 : decode cX4_digest 59 = .ok (.getfield 10, 3) := by decide +kernel
theorem dX4_digest_62 : decode cX4_digest 62 = .ok (.getfield 55, 3) := by decide +kernel
theorem dX4_digest_65 : decode cX4_digest 65 = .ok (.iload_n 3, 1) := by decide +kernel
theorem dX4_digest_66 : decode cX4_digest 66 = .ok (.invokestatic 74, 3) := by decide +kernel
theorem dX4_digest_69 : decode cX4_digest 69 = .ok (.i2l, 1) := by decide +kernel
theorem dX4_digest_70 : decode cX4_digest 70 = .ok (.invokestatic 209, 3) := by decide +kernel
theorem dX4_digest_73 : decode cX4_digest 73 = .ok (.lstore_n 1, 1) := by decide +kernel
theorem dX4_digest_74 : decode cX4_digest 74 = .ok (.lload_n 1, 1) := by decide +kernel
theorem dX4_digest_75 : decode cX4_digest 75 = .ok (.aload_n 0, 1) := by decide +kernel
theorem dX4_digest_76 : decode cX4_digest 76 = .ok (.getfield 10, 3) := by decide +kernel
theorem dX4_digest_79 : decode cX4_digest 79 = .ok (.getfield 63, 3) := by decide +kernel
theorem dX4_digest_82 : decode cX4_digest 82 = .ok (.iload_n 3, 1) := by decide +kernel
theorem dX4_digest_83 : decode cX4_digest 83 = .ok (.invokestatic 74, 3) := by decide +kernel
theorem dX4_digest_86 : decode cX4_digest 86 = .ok (.i2l, 1) := by decide +kernel
theorem dX4_digest_87 : decode cX4_digest 87 = .ok (.invokestatic 209, 3) := by decide +kernel
theorem dX4_digest_90 : decode cX4_digest 90 = .ok (.lstore_n 1, 1) := by decide +kernel
theorem dX4_digest_91 : decode cX4_digest 91 = .ok (.lload_n 1, 1) := by decide +kernel
theorem dX4_digest_92 : decode cX4_digest 92 = .ok (.aload_n 0, 1) := by decide +kernel
theorem dX4_digest_93 : decode cX4_digest 93 = .ok (.getfield 34, 3) := by decide +kernel
theorem dX4_digest_96 : decode cX4_digest 96 = .ok (.iload_n 3, 1) := by decide +kernel
theorem dX4_digest_97 : decode cX4_digest 97 = .ok (.invokestatic 159, 3) := by decide +kernel
theorem dX4_digest_100 : decode cX4_digest 100 = .ok (.invokestatic 209, 3) := by decide +kernel
theorem dX4_digest_103 : decode cX4_digest 103 = .ok (.lstore_n 1, 1) := by decide +kernel
theorem dX4_digest_104 : decode cX4_digest 104 = .ok (.lload_n 1, 1) := by decide +kernel
theorem dX4_digest_105 : decode cX4_digest 105 = .ok (.aload_n 0, 1) := by decide +kernel
theorem dX4_digest_106 : decode cX4_digest 106 = .ok (.getfield 38, 3) := by decide +kernel
theorem dX4_digest_109 : decode cX4_digest 109 = .ok (.iload_n 3, 1) := by decide +kernel
theorem dX4_digest_110 : decode cX4_digest 110 = .ok (.invokestatic 159, 3) := by decide +kernel
theorem dX4_digest_113 : decode cX4_digest 113 = .ok (.invokestatic 209, 3) := by decide +kernel
theorem dX4_digest_116 : decode cX4_digest 116 = .ok (.lstore_n 1, 1) := by decide +kernel
theorem dX4_digest_117 : decode cX4_digest 117 = .ok (.iinc 3 1, 3) := by decide +kernel
theorem dX4_digest_120 : decode cX4_digest 120 = .ok (.goto (-71), 3) := by decide +kernel
theorem dX4_digest_123 : decode cX4_digest 123 = .ok (.lload_n 1, 1) := by decide +kernel
theorem dX4_digest_124 : decode cX4_digest 124 = .ok (.aload_n 0, 1) := by decide +kernel
theorem dX4_digest_125 : decode cX4_digest 125 = .ok (.getfield 178, 3) := by decide +kernel
theorem dX4_digest_128 : decode cX4_digest 128 = .ok (.invokestatic 209, 3) := by decide +kernel
theorem dX4_digest_131 : decode cX4_digest 131 = .ok (.lstore_n 1, 1) := by decide +kernel
theorem dX4_digest_132 : decode cX4_digest 132 = .ok (.lload_n 1, 1) := by decide +kernel
theorem dX4_digest_133 : decode cX4_digest 133 = .ok (.aload_n 0, 1) := by decide +kernel
theorem dX4_digest_134 : decode cX4_digest 134 = .ok (.getfield 182, 3) := by decide +kernel
theorem dX4_digest_137 : decode cX4_digest 137 = .ok (.invokestatic 209, 3) := by decide +kernel
theorem dX4_digest_140 : decode cX4_digest 140 = .ok (.lstore_n 1, 1) := by decide +kernel
theorem dX4_digest_141 : decode cX4_digest 141 = .ok (.lload_n 1, 1) := by decide +kernel
theorem dX4_digest_142 : decode cX4_digest 142 = .ok (.aload_n 0, 1) := by decide +kernel
theorem dX4_digest_143 : decode cX4_digest 143 = .ok (.getfield 185, 3) := by decide +kernel
theorem dX4_digest_146 : decode cX4_digest 146 = .ok (.invokestatic 209, 3) := by decide +kernel
theorem dX4_digest_149 : decode cX4_digest 149 = .ok (.lstore_n 1, 1) := by decide +kernel
theorem dX4_digest_150 : decode cX4_digest 150 = .ok (.iconst 0, 1) := by decide +kernel
theorem dX4_digest_151 : decode cX4_digest 151 = .ok (.istore_n 3, 1) := by decide +kernel
theorem dX4_digest_152 : decode cX4_digest 152 = .ok (.iload_n 3, 1) := by decide +kernel
theorem dX4_digest_153 : decode cX4_digest 153 = .ok (.aload_n 0, 1) := by decide +kernel
theorem dX4_digest_154 : decode cX4_digest 154 = .ok (.getfield 45, 3) := by decide +kernel
theorem dX4_digest_157 : decode cX4_digest 157 = .ok (.if_icmp .ge 20, 3) := by decide +kernel
theorem dX4_digest_160 : decode cX4_digest 160 = .ok (.aload_n 0, 1) := by decide +kernel
theorem dX4_digest_161 : decode cX4_digest 161 = .ok (.lload_n 1, 1) := by decide +kernel
theorem dX4_digest_162 : decode cX4_digest 162 = .ok (.aload_n 0, 1) := by decide +kernel
theorem dX4_digest_163 : decode cX4_digest 163 = .ok (.iload_n 3, 1) := by decide +kernel
theorem dX4_digest_164 : decode cX4_digest 164 = .ok (.invokevirtual 113, 3) := by decide +kernel
theorem dX4_digest_167 : decode cX4_digest 167 = .ok (.invokevirtual 213, 3) := by decide +kernel
theorem dX4_digest_170 : decode cX4_digest 170 = .ok (.lstore_n 1, 1) := by decide +kernel
theorem dX4_digest_171 : decode cX4_digest 171 = .ok (.iinc 3 1, 3) := by decide +kernel
theorem dX4_digest_174 : decode cX4_digest 174 = .ok (.goto (-22), 3) := by decide +kernel
theorem dX4_digest_177 : decode cX4_digest 177 = .ok (.lload_n 1, 1) := by decide +kernel
theorem dX4_digest_178 : decode cX4_digest 178 = .ok (.aload_n 0, 1) := by decide +kernel
theorem dX4_digest_179 : decode cX4_digest 179 = .ok (.getfield 154, 3) := by decide +kernel
theorem dX4_digest_182 : decode cX4_digest 182 = .ok (.i2l, 1) := by decide +kernel
theorem dX4_digest_183 : decode cX4_digest 183 = .ok (.invokestatic 209, 3) := by decide +kernel
theorem dX4_digest_186 : decode cX4_digest 186 = .ok (.lstore_n 1, 1) := by decide +kernel
theorem dX4_digest_187 : decode cX4_digest 187 = .ok (.lload_n 1, 1) := by decide +kernel
theorem dX4_digest_188 : decode cX4_digest 188 = .ok (.aload_n 0, 1) := by decide +kernel
theorem dX4_digest_189 : decode cX4_digest 189 = .ok (.getfield 162, 3) := by decide +kernel
theorem dX4_digest_192 : decode cX4_digest 192 = .ok (.i2l, 1) := by decide +kernel
theorem dX4_digest_193 : decode cX4_digest 193 = .ok (.invokestatic 209, 3) := by decide +kernel
theorem dX4_digest_196 : decode cX4_digest 196 = .ok (.lreturn, 1) := by decide +kernel
theorem dX4_flow_0 : decode cX4_flow 0 = .ok (.iload_n 1, 1) := by decide +kernel
theorem dX4_flow_1 : decode cX4_flow 1 = .ok (.invokestatic 108, 3) := by decide +kernel
theorem dX4_flow_4 : decode cX4_flow 4 = .ok (.aload_n 0, 1) := by decide +kernel
theorem dX4_flow_5 : decode cX4_flow 5 = .ok (.iload_n 2, 1) := by decide +kernel
theorem dX4_flow_6 : decode cX4_flow 6 = .ok (.invokevirtual 66, 3) := by decide +kernel
theorem dX4_flow_9 : decode cX4_flow 9 = .ok (.iload_n 3, 1) := by decide +kernel
theorem dX4_flow_10 : decode cX4_flow 10 = .ok (.bipush 8, 2) := by decide +kernel
theorem dX4_flow_12 : decode cX4_flow 12 = .ok (.invokestatic 165, 3) := by decide +kernel
theorem dX4_flow_15 : decode cX4_flow 15 = .ok (.iload_n 1, 1) := by decide +kernel
theorem dX4_flow_16 : decode cX4_flow 16 = .ok (.aload_n 0, 1) := by decide +kernel
theorem dX4_flow_17 : decode cX4_flow 17 = .ok (.getfield 45, 3) := by decide +kernel
theorem dX4_flow_20 : decode cX4_flow 20 = .ok (.if_icmp .ge 16, 3) := by decide +kernel
theorem dX4_flow_23 : decode cX4_flow 23 = .ok (.aload_n 0, 1) := by decide +kernel
theorem dX4_flow_24 : decode cX4_flow 24 = .ok (.iload_n 1, 1) := by decide +kernel
theorem dX4_flow_25 : decode cX4_flow 25 = .ok (.invokevirtual 113, 3) := by decide +kernel
theorem dX4_flow_28 : decode cX4_flow 28 = .ok (.iload_n 2, 1) := by decide +kernel
theorem dX4_flow_29 : decode cX4_flow 29 = .ok (.iload_n 3, 1) := by decide +kernel
theorem dX4_flow_30 : decode cX4_flow 30 = .ok (.invokevirtual 169, 3) := by decide +kernel
theorem dX4_flow_33 : decode cX4_flow 33 = .ok (.goto 4, 3) := by decide +kernel
theorem dX4_flow_36 : decode cX4_flow 36 = .ok (.iconst 0, 1) := by decide +kernel
theorem dX4_flow_37 : decode cX4_flow 37 = .ok (.ireturn, 1) := by decide +kernel
