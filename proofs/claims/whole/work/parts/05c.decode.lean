theorem dX4_independence_0 : decode cX4_independence 0 = .ok (.iconst 0, 1) := by decide +kernel
theorem dX4_independence_1 : decode cX4_independence 1 = .ok (.istore_n 1, 1) := by decide +kernel
theorem dX4_independence_2 : decode cX4_independence 2 = .ok (.iconst 0, 1) := by decide +kernel
theorem dX4_independence_3 : decode cX4_independence 3 = .ok (.istore_n 2, 1) := by decide +kernel
theorem dX4_independence_4 : decode cX4_independence 4 = .ok (.iconst 0, 1) := by decide +kernel
theorem dX4_independence_5 : decode cX4_independence 5 = .ok (.istore_n 3, 1) := by decide +kernel
theorem dX4_independence_6 : decode cX4_independence 6 = .ok (.iload_n 3, 1) := by decide +kernel
theorem dX4_independence_7 : decode cX4_independence 7 = .ok (.aload_n 0, 1) := by decide +kernel
theorem dX4_independence_8 : decode cX4_independence 8 = .ok (.getfield 45, 3) := by decide +kernel
theorem dX4_independence_11 : decode cX4_independence 11 = .ok (.if_icmp .ge 33, 3) := by decide +kernel
theorem dX4_independence_14 : decode cX4_independence 14 = .ok (.aload_n 0, 1) := by decide +kernel
theorem dX4_independence_15 : decode cX4_independence 15 = .ok (.iload_n 3, 1) := by decide +kernel
theorem dX4_independence_16 : decode cX4_independence 16 = .ok (.invokevirtual 113, 3) := by decide +kernel
theorem dX4_independence_19 : decode cX4_independence 19 = .ok (.astore 4, 2) := by decide +kernel
theorem dX4_independence_21 : decode cX4_independence 21 = .ok (.iload_n 1, 1) := by decide +kernel
theorem dX4_independence_22 : decode cX4_independence 22 = .ok (.aload 4, 2) := by decide +kernel
theorem dX4_independence_24 : decode cX4_independence 24 = .ok (.invokevirtual 203, 3) := by decide +kernel
theorem dX4_independence_27 : decode cX4_independence 27 = .ok (.iadd, 1) := by decide +kernel
theorem dX4_independence_28 : decode cX4_independence 28 = .ok (.istore_n 1, 1) := by decide +kernel
theorem dX4_independence_29 : decode cX4_independence 29 = .ok (.iload_n 2, 1) := by decide +kernel
theorem dX4_independence_30 : decode cX4_independence 30 = .ok (.aload 4, 2) := by decide +kernel
theorem dX4_independence_32 : decode cX4_independence 32 = .ok (.iconst 3, 1) := by decide +kernel
theorem dX4_independence_33 : decode cX4_independence 33 = .ok (.invokevirtual 150, 3) := by decide +kernel
theorem dX4_independence_36 : decode cX4_independence 36 = .ok (.iadd, 1) := by decide +kernel
theorem dX4_independence_37 : decode cX4_independence 37 = .ok (.istore_n 2, 1) := by decide +kernel
theorem dX4_independence_38 : decode cX4_independence 38 = .ok (.iinc 3 1, 3) := by decide +kernel
theorem dX4_independence_41 : decode cX4_independence 41 = .ok (.goto (-35), 3) := by decide +kernel
theorem dX4_independence_44 : decode cX4_independence 44 = .ok (.iload_n 1, 1) := by decide +kernel
theorem dX4_independence_45 : decode cX4_independence 45 = .ok (.ifCond .ne 7, 3) := by decide +kernel
theorem dX4_independence_48 : decode cX4_independence 48 = .ok (.dconst 1, 1) := by decide +kernel
theorem dX4_independence_49 : decode cX4_independence 49 = .ok (.goto 10, 3) := by decide +kernel
theorem dX4_independence_52 : decode cX4_independence 52 = .ok (.iload_n 1, 1) := by decide +kernel
theorem dX4_independence_53 : decode cX4_independence 53 = .ok (.iload_n 2, 1) := by decide +kernel
theorem dX4_independence_54 : decode cX4_independence 54 = .ok (.isub, 1) := by decide +kernel
theorem dX4_independence_55 : decode cX4_independence 55 = .ok (.i2d, 1) := by decide +kernel
theorem dX4_independence_56 : decode cX4_independence 56 = .ok (.iload_n 1, 1) := by decide +kernel
theorem dX4_independence_57 : decode cX4_independence 57 = .ok (.i2d, 1) := by decide +kernel
theorem dX4_independence_58 : decode cX4_independence 58 = .ok (.ddiv, 1) := by decide +kernel
theorem dX4_independence_59 : decode cX4_independence 59 = .ok (.dreturn, 1) := by decide +kernel
theorem dX4_init_0 : decode cX4_init 0 = .ok (.aload_n 0, 1) := by decide +kernel
theorem dX4_init_1 : decode cX4_init 1 = .ok (.invokespecial 1, 3) := by decide +kernel
theorem dX4_init_4 : decode cX4_init 4 = .ok (.aload_n 0, 1) := by decide +kernel
theorem dX4_init_5 : decode cX4_init 5 = .ok (.new 7, 3) := by decide +kernel
theorem dX4_init_8 : decode cX4_init 8 = .ok (.dup, 1) := by decide +kernel
theorem dX4_init_9 : decode cX4_init 9 = .ok (.invokespecial 9, 3) := by decide +kernel
theorem dX4_init_12 : decode cX4_init 12 = .ok (.putfield 10, 3) := by decide +kernel
theorem dX4_init_15 : decode cX4_init 15 = .ok (.aload_n 0, 1) := by decide +kernel
theorem dX4_init_16 : decode cX4_init 16 = .ok (.bipush 48, 2) := by decide +kernel
theorem dX4_init_18 : decode cX4_init 18 = .ok (.anewarray 16, 3) := by decide +kernel
theorem dX4_init_21 : decode cX4_init 21 = .ok (.putfield 18, 3) := by decide +kernel
theorem dX4_init_24 : decode cX4_init 24 = .ok (.aload_n 0, 1) := by decide +kernel
theorem dX4_init_25 : decode cX4_init 25 = .ok (.new 16, 3) := by decide +kernel
theorem dX4_init_28 : decode cX4_init 28 = .ok (.dup, 1) := by decide +kernel
theorem dX4_init_29 : decode cX4_init 29 = .ok (.invokespecial 22, 3) := by decide +kernel
theorem dX4_init_32 : decode cX4_init 32 = .ok (.putfield 23, 3) := by decide +kernel
theorem dX4_init_35 : decode cX4_init 35 = .ok (.aload_n 0, 1) := by decide +kernel
theorem dX4_init_36 : decode cX4_init 36 = .ok (.new 27, 3) := by decide +kernel
theorem dX4_init_39 : decode cX4_init 39 = .ok (.dup, 1) := by decide +kernel
theorem dX4_init_40 : decode cX4_init 40 = .ok (.invokespecial 29, 3) := by decide +kernel
theorem dX4_init_43 : decode cX4_init 43 = .ok (.putfield 30, 3) := by decide +kernel
theorem dX4_init_46 : decode cX4_init 46 = .ok (.aload_n 0, 1) := by decide +kernel
theorem dX4_init_47 : decode cX4_init 47 = .ok (.bipush 6, 2) := by decide +kernel
theorem dX4_init_49 : decode cX4_init 49 = .ok (.newarray .long, 2) := by decide +kernel
theorem dX4_init_51 : decode cX4_init 51 = .ok (.putfield 34, 3) := by decide +kernel
theorem dX4_init_54 : decode cX4_init 54 = .ok (.aload_n 0, 1) := by decide +kernel
theorem dX4_init_55 : decode cX4_init 55 = .ok (.bipush 6, 2) := by decide +kernel
theorem dX4_init_57 : decode cX4_init 57 = .ok (.newarray .long, 2) := by decide +kernel
theorem dX4_init_59 : decode cX4_init 59 = .ok (.putfield 38, 3) := by decide +kernel
theorem dX4_init_62 : decode cX4_init 62 = .ok (.iconst 0, 1) := by decide +kernel
theorem dX4_init_63 : decode cX4_init 63 = .ok (.istore_n 1, 1) := by decide +kernel
theorem dX4_init_64 : decode cX4_init 64 = .ok (.iload_n 1, 1) := by decide +kernel
theorem dX4_init_65 : decode cX4_init 65 = .ok (.aload_n 0, 1) := by decide +kernel
theorem dX4_init_66 : decode cX4_init 66 = .ok (.getfield 18, 3) := by decide +kernel
theorem dX4_init_69 : decode cX4_init 69 = .ok (.arraylength, 1) := by decide +kernel
theorem dX4_init_70 : decode cX4_init 70 = .ok (.if_icmp .ge 22, 3) := by decide +kernel
theorem dX4_init_73 : decode cX4_init 73 = .ok (.aload_n 0, 1) := by decide +kernel
theorem dX4_init_74 : decode cX4_init 74 = .ok (.getfield 18, 3) := by decide +kernel
theorem dX4_init_77 : decode cX4_init 77 = .ok (.iload_n 1, 1) := by decide +kernel
theorem dX4_init_78 : decode cX4_init 78 = .ok (.new 16, 3) := by decide +kernel
theorem dX4_init_81 : decode cX4_init 81 = .ok (.dup, 1) := by decide +kernel
theorem dX4_init_82 : decode cX4_init 82 = .ok (.invokespecial 22, 3) := by decide +kernel
theorem dX4_init_85 : decode cX4_init 85 = .ok (.aastore, 1) := by decide +kernel
theorem dX4_init_86 : decode cX4_init 86 = .ok (.iinc 1 1, 3) := by decide +kernel
theorem dX4_init_89 : decode cX4_init 89 = .ok (.goto (-25), 3) := by decide +kernel
theorem dX4_init_92 : decode cX4_init 92 = .ok (.return_, 1) := by decide +kernel
theorem dX4_late_0 : decode cX4_late 0 = .ok (.iload_n 1, 1) := by decide +kernel
theorem dX4_late_1 : decode cX4_late 1 = .ok (.ifCond .ge 13, 3) := by decide +kernel
theorem dX4_late_4 : decode cX4_late 4 = .ok (.new 196, 3) := by decide +kernel
theorem dX4_late_7 : decode cX4_late 7 = .ok (.dup, 1) := by decide +kernel
theorem dX4_late_8 : decode cX4_late 8 = .ok (.ldc 201, 2) := by decide +kernel
theorem dX4_late_10 : decode cX4_late 10 = .ok (.invokespecial 200, 3) := by decide +kernel
theorem dX4_late_13 : decode cX4_late 13 = .ok (.athrow, 1) := by decide +kernel
theorem dX4_late_14 : decode cX4_late 14 = .ok (.iconst 0, 1) := by decide +kernel
theorem dX4_late_15 : decode cX4_late 15 = .ok (.istore_n 2, 1) := by decide +kernel
theorem dX4_late_16 : decode cX4_late 16 = .ok (.iconst 0, 1) := by decide +kernel
theorem dX4_late_17 : decode cX4_late 17 = .ok (.istore_n 3, 1) := by decide +kernel
theorem dX4_late_18 : decode cX4_late 18 = .ok (.iload_n 3, 1) := by decide +kernel
theorem dX4_late_19 : decode cX4_late 19 = .ok (.aload_n 0, 1) := by decide +kernel
theorem dX4_late_20 : decode cX4_late 20 = .ok (.getfield 41, 3) := by decide +kernel
theorem dX4_late_23 : decode cX4_late 23 = .ok (.if_icmp .ge 30, 3) := by decide +kernel
theorem dX4_late_26 : decode cX4_late 26 = .ok (.aload_n 0, 1) := by decide +kernel
theorem dX4_late_27 : decode cX4_late 27 = .ok (.getfield 38, 3) := by decide +kernel
theorem dX4_late_30 : decode cX4_late 30 = .ok (.iload_n 3, 1) := by decide +kernel
theorem dX4_late_31 : decode cX4_late 31 = .ok (.invokestatic 159, 3) := by decide +kernel
theorem dX4_late_34 : decode cX4_late 34 = .ok (.iload_n 1, 1) := by decide +kernel
theorem dX4_late_35 : decode cX4_late 35 = .ok (.i2l, 1) := by decide +kernel
theorem dX4_late_36 : decode cX4_late 36 = .ok (.lneg, 1) := by decide +kernel
theorem dX4_late_37 : decode cX4_late 37 = .ok (.lcmp, 1) := by decide +kernel
theorem dX4_late_38 : decode cX4_late 38 = .ok (.ifCond .ge 9, 3) := by decide +kernel
theorem dX4_late_41 : decode cX4_late 41 = .ok (.iload_n 2, 1) := by decide +kernel
theorem dX4_late_42 : decode cX4_late 42 = .ok (.iconst 1, 1) := by decide +kernel
theorem dX4_late_43 : decode cX4_late 43 = .ok (.iload_n 3, 1) := by decide +kernel
theorem dX4_late_44 : decode cX4_late 44 = .ok (.ishl, 1) := by decide +kernel
theorem dX4_late_45 : decode cX4_late 45 = .ok (.ior, 1) := by decide +kernel
theorem dX4_late_46 : decode cX4_late 46 = .ok (.istore_n 2, 1) := by decide +kernel
theorem dX4_late_47 : decode cX4_late 47 = .ok (.iinc 3 1, 3) := by decide +kernel
theorem dX4_late_50 : decode cX4_late 50 = .ok (.goto (-32), 3) := by decide +kernel
theorem dX4_late_53 : decode cX4_late 53 = .ok (.iload_n 2, 1) := by decide +kernel
theorem dX4_late_54 : decode cX4_late 54 = .ok (.ireturn, 1) := by decide +kernel
theorem dX4_members_0 : decode cX4_members 0 = .ok (.aload_n 0, 1) := by decide +kernel
theorem dX4_members_1 : decode cX4_members 1 = .ok (.getfield 41, 3) := by decide +kernel
theorem dX4_members_4 : decode cX4_members 4 = .ok (.ireturn, 1) := by decide +kernel
theorem dX4_meter_0 : decode cX4_meter 0 = .ok (.aload_n 0, 1) := by decide +kernel
theorem dX4_meter_1 : decode cX4_meter 1 = .ok (.iload_n 1, 1) := by decide +kernel
theorem dX4_meter_2 : decode cX4_meter 2 = .ok (.invokevirtual 66, 3) := by decide +kernel
theorem dX4_meter_5 : decode cX4_meter 5 = .ok (.iload_n 2, 1) := by decide +kernel
theorem dX4_meter_6 : decode cX4_meter 6 = .ok (.invokestatic 108, 3) := by decide +kernel
theorem dX4_meter_9 : decode cX4_meter 9 = .ok (.iload_n 3, 1) := by decide +kernel
theorem dX4_meter_10 : decode cX4_meter 10 = .ok (.iconst 0, 1) := by decide +kernel
theorem dX4_meter_11 : decode cX4_meter 11 = .ok (.sipush 5000, 3) := by decide +kernel
theorem dX4_meter_14 : decode cX4_meter 14 = .ok (.invokestatic 70, 3) := by decide +kernel
theorem dX4_meter_17 : decode cX4_meter 17 = .ok (.iload 4, 2) := by decide +kernel
theorem dX4_meter_19 : decode cX4_meter 19 = .ok (.iconst 0, 1) := by decide +kernel
theorem dX4_meter_20 : decode cX4_meter 20 = .ok (.sipush 5000, 3) := by decide +kernel
theorem dX4_meter_23 : decode cX4_meter 23 = .ok (.invokestatic 70, 3) := by decide +kernel
theorem dX4_meter_26 : decode cX4_meter 26 = .ok (.iload_n 2, 1) := by decide +kernel
theorem dX4_meter_27 : decode cX4_meter 27 = .ok (.aload_n 0, 1) := by decide +kernel
theorem dX4_meter_28 : decode cX4_meter 28 = .ok (.getfield 45, 3) := by decide +kernel
theorem dX4_meter_31 : decode cX4_meter 31 = .ok (.if_icmp .ge 13, 3) := by decide +kernel
theorem dX4_meter_34 : decode cX4_meter 34 = .ok (.new 48, 3) := by decide +kernel
theorem dX4_meter_37 : decode cX4_meter 37 = .ok (.dup, 1) := by decide +kernel
theorem dX4_meter_38 : decode cX4_meter 38 = .ok (.ldc 111, 2) := by decide +kernel
theorem dX4_meter_40 : decode cX4_meter 40 = .ok (.invokespecial 52, 3) := by decide +kernel
theorem dX4_meter_43 : decode cX4_meter 43 = .ok (.athrow, 1) := by decide +kernel
theorem dX4_meter_44 : decode cX4_meter 44 = .ok (.aload_n 0, 1) := by decide +kernel
theorem dX4_meter_45 : decode cX4_meter 45 = .ok (.iload_n 2, 1) := by decide +kernel
theorem dX4_meter_46 : decode cX4_meter 46 = .ok (.invokevirtual 113, 3) := by decide +kernel
theorem dX4_meter_49 : decode cX4_meter 49 = .ok (.iload_n 1, 1) := by decide +kernel
theorem dX4_meter_50 : decode cX4_meter 50 = .ok (.iload_n 3, 1) := by decide +kernel
theorem dX4_meter_51 : decode cX4_meter 51 = .ok (.iload 4, 2) := by decide +kernel
theorem dX4_meter_53 : decode cX4_meter 53 = .ok (.invokevirtual 117, 3) := by decide +kernel
theorem dX4_meter_56 : decode cX4_meter 56 = .ok (.ireturn, 1) := by decide +kernel
theorem dX4_mix_0 : decode cX4_mix 0 = .ok (.lload_n 0, 1) := by decide +kernel
theorem dX4_mix_1 : decode cX4_mix 1 = .ok (.ldc2_w 217, 3) := by decide +kernel
theorem dX4_mix_4 : decode cX4_mix 4 = .ok (.lmul, 1) := by decide +kernel
theorem dX4_mix_5 : decode cX4_mix 5 = .ok (.lload_n 2, 1) := by decide +kernel
theorem dX4_mix_6 : decode cX4_mix 6 = .ok (.ladd, 1) := by decide +kernel
theorem dX4_mix_7 : decode cX4_mix 7 = .ok (.lreturn, 1) := by decide +kernel
theorem dX4_mixSlot_0 : decode cX4_mixSlot 0 = .ok (.lload_n 1, 1) := by decide +kernel
theorem dX4_mixSlot_1 : decode cX4_mixSlot 1 = .ok (.aload_n 3, 1) := by decide +kernel
theorem dX4_mixSlot_2 : decode cX4_mixSlot 2 = .ok (.getfield 136, 3) := by decide +kernel
theorem dX4_mixSlot_5 : decode cX4_mixSlot 5 = .ok (.i2l, 1) := by decide +kernel
theorem dX4_mixSlot_6 : decode cX4_mixSlot 6 = .ok (.invokestatic 209, 3) := by decide +kernel
theorem dX4_mixSlot_9 : decode cX4_mixSlot 9 = .ok (.lstore 4, 2) := by decide +kernel
theorem dX4_mixSlot_11 : decode cX4_mixSlot 11 = .ok (.iconst 0, 1) := by decide +kernel
theorem dX4_mixSlot_12 : decode cX4_mixSlot 12 = .ok (.istore 6, 2) := by decide +kernel
theorem dX4_mixSlot_14 : decode cX4_mixSlot 14 = .ok (.iload 6, 2) := by decide +kernel
theorem dX4_mixSlot_16 : decode cX4_mixSlot 16 = .ok (.aload_n 0, 1) := by decide +kernel
theorem dX4_mixSlot_17 : decode cX4_mixSlot 17 = .ok (.getfield 41, 3) := by decide +kernel
theorem dX4_mixSlot_20 : decode cX4_mixSlot 20 = .ok (.if_icmp .ge 75, 3) := by decide +kernel
theorem dX4_mixSlot_23 : decode cX4_mixSlot 23 = .ok (.lload 4, 2) := by decide +kernel
theorem dX4_mixSlot_25 : decode cX4_mixSlot 25 = .ok (.aload_n 3, 1) := by decide +kernel
theorem dX4_mixSlot_26 : decode cX4_mixSlot 26 = .ok (.getfield 124, 3) := by decide +kernel
theorem dX4_mixSlot_29 : decode cX4_mixSlot 29 = .ok (.iload 6, 2) := by decide +kernel
theorem dX4_mixSlot_31 : decode cX4_mixSlot 31 = .ok (.invokestatic 74, 3) := by decide +kernel
theorem dX4_mixSlot_34 : decode cX4_mixSlot 34 = .ok (.i2l, 1) := by decide +kernel
theorem dX4_mixSlot_35 : decode cX4_mixSlot 35 = .ok (.invokestatic 209, 3) := by decide +kernel
theorem dX4_mixSlot_38 : decode cX4_mixSlot 38 = .ok (.lstore 4, 2) := by decide +kernel
theorem dX4_mixSlot_40 : decode cX4_mixSlot 40 = .ok (.lload 4, 2) := by decide +kernel
theorem dX4_mixSlot_42 : decode cX4_mixSlot 42 = .ok (.aload_n 3, 1) := by decide +kernel
theorem dX4_mixSlot_43 : decode cX4_mixSlot 43 = .ok (.getfield 121, 3) := by decide +kernel
theorem dX4_mixSlot_46 : decode cX4_mixSlot 46 = .ok (.iload 6, 2) := by decide +kernel
theorem dX4_mixSlot_48 : decode cX4_mixSlot 48 = .ok (.invokestatic 74, 3) := by decide +kernel
theorem dX4_mixSlot_51 : decode cX4_mixSlot 51 = .ok (.i2l, 1) := by decide +kernel
theorem dX4_mixSlot_52 : decode cX4_mixSlot 52 = .ok (.invokestatic 209, 3) := by decide +kernel
theorem dX4_mixSlot_55 : decode cX4_mixSlot 55 = .ok (.lstore 4, 2) := by decide +kernel
theorem dX4_mixSlot_57 : decode cX4_mixSlot 57 = .ok (.iconst 0, 1) := by decide +kernel
theorem dX4_mixSlot_58 : decode cX4_mixSlot 58 = .ok (.istore 7, 2) := by decide +kernel
theorem dX4_mixSlot_60 : decode cX4_mixSlot 60 = .ok (.iload 7, 2) := by decide +kernel
theorem dX4_mixSlot_62 : decode cX4_mixSlot 62 = .ok (.bipush 8, 2) := by decide +kernel
theorem dX4_mixSlot_64 : decode cX4_mixSlot 64 = .ok (.if_icmp .ge 25, 3) := by decide +kernel
theorem dX4_mixSlot_67 : decode cX4_mixSlot 67 = .ok (.lload 4, 2) := by decide +kernel
theorem dX4_mixSlot_69 : decode cX4_mixSlot 69 = .ok (.aload_n 3, 1) := by decide +kernel
theorem dX4_mixSlot_70 : decode cX4_mixSlot 70 = .ok (.iload 6, 2) := by decide +kernel
theorem dX4_mixSlot_72 : decode cX4_mixSlot 72 = .ok (.iload 7, 2) := by decide +kernel
theorem dX4_mixSlot_74 : decode cX4_mixSlot 74 = .ok (.invokevirtual 169, 3) := by decide +kernel
theorem dX4_mixSlot_77 : decode cX4_mixSlot 77 = .ok (.i2l, 1) := by decide +kernel
theorem dX4_mixSlot_78 : decode cX4_mixSlot 78 = .ok (.invokestatic 209, 3) := by decide +kernel
theorem dX4_mixSlot_81 : decode cX4_mixSlot 81 = .ok (.lstore 4, 2) := by decide +kernel
theorem dX4_mixSlot_83 : decode cX4_mixSlot 83 = .ok (.iinc 7 1, 3) := by decide +kernel
theorem dX4_mixSlot_86 : decode cX4_mixSlot 86 = .ok (.goto (-26), 3) := by decide +kernel
theorem dX4_mixSlot_89 : decode cX4_mixSlot 89 = .ok (.iinc 6 1, 3) := by decide +kernel
theorem dX4_mixSlot_92 : decode cX4_mixSlot 92 = .ok (.goto (-78), 3) := by decide +kernel
theorem dX4_mixSlot_95 : decode cX4_mixSlot 95 = .ok (.lload 4, 2) := by decide +kernel
theorem dX4_mixSlot_97 : decode cX4_mixSlot 97 = .ok (.lreturn, 1) := by decide +kernel
theorem dX4_pay_0 : decode cX4_pay 0 = .ok (.aload_n 0, 1) := by decide +kernel
theorem dX4_pay_1 : decode cX4_pay 1 = .ok (.iload_n 1, 1) := by decide +kernel
theorem dX4_pay_2 : decode cX4_pay 2 = .ok (.invokevirtual 66, 3) := by decide +kernel
theorem dX4_pay_5 : decode cX4_pay 5 = .ok (.iload_n 2, 1) := by decide +kernel
theorem dX4_pay_6 : decode cX4_pay 6 = .ok (.ldc 194, 2) := by decide +kernel
theorem dX4_pay_8 : decode cX4_pay 8 = .ok (.ldc 195, 2) := by decide +kernel
theorem dX4_pay_10 : decode cX4_pay 10 = .ok (.invokestatic 70, 3) := by decide +kernel
theorem dX4_pay_13 : decode cX4_pay 13 = .ok (.iload_n 2, 1) := by decide +kernel
theorem dX4_pay_14 : decode cX4_pay 14 = .ok (.ifCond .ne 13, 3) := by decide +kernel
theorem dX4_pay_17 : decode cX4_pay 17 = .ok (.new 196, 3) := by decide +kernel
theorem dX4_pay_20 : decode cX4_pay 20 = .ok (.dup, 1) := by decide +kernel
theorem dX4_pay_21 : decode cX4_pay 21 = .ok (.ldc 198, 2) := by decide +kernel
theorem dX4_pay_23 : decode cX4_pay 23 = .ok (.invokespecial 200, 3) := by decide +kernel
theorem dX4_pay_26 : decode cX4_pay 26 = .ok (.athrow, 1) := by decide +kernel
theorem dX4_pay_27 : decode cX4_pay 27 = .ok (.aload_n 0, 1) := by decide +kernel
theorem dX4_pay_28 : decode cX4_pay 28 = .ok (.getfield 38, 3) := by decide +kernel
theorem dX4_pay_31 : decode cX4_pay 31 = .ok (.iload_n 1, 1) := by decide +kernel
theorem dX4_pay_32 : decode cX4_pay 32 = .ok (.iload_n 2, 1) := by decide +kernel
theorem dX4_pay_33 : decode cX4_pay 33 = .ok (.i2l, 1) := by decide +kernel
theorem dX4_pay_34 : decode cX4_pay 34 = .ok (.invokestatic 188, 3) := by decide +kernel
theorem dX4_pay_37 : decode cX4_pay 37 = .ok (.aload_n 0, 1) := by decide +kernel
theorem dX4_pay_38 : decode cX4_pay 38 = .ok (.dup, 1) := by decide +kernel
theorem dX4_pay_39 : decode cX4_pay 39 = .ok (.getfield 185, 3) := by decide +kernel
theorem dX4_pay_42 : decode cX4_pay 42 = .ok (.iload_n 2, 1) := by decide +kernel
theorem dX4_pay_43 : decode cX4_pay 43 = .ok (.i2l, 1) := by decide +kernel
theorem dX4_pay_44 : decode cX4_pay 44 = .ok (.lsub, 1) := by decide +kernel
theorem dX4_pay_45 : decode cX4_pay 45 = .ok (.putfield 185, 3) := by decide +kernel
theorem dX4_pay_48 : decode cX4_pay 48 = .ok (.aload_n 0, 1) := by decide +kernel
theorem dX4_pay_49 : decode cX4_pay 49 = .ok (.getfield 38, 3) := by decide +kernel
theorem dX4_pay_52 : decode cX4_pay 52 = .ok (.iload_n 1, 1) := by decide +kernel
theorem dX4_pay_53 : decode cX4_pay 53 = .ok (.invokestatic 159, 3) := by decide +kernel
theorem dX4_pay_56 : decode cX4_pay 56 = .ok (.lreturn, 1) := by decide +kernel
theorem dX4_present_0 : decode cX4_present 0 = .ok (.aload_n 0, 1) := by decide +kernel
theorem dX4_present_1 : decode cX4_present 1 = .ok (.getfield 45, 3) := by decide +kernel
theorem dX4_present_4 : decode cX4_present 4 = .ok (.ireturn, 1) := by decide +kernel
theorem dX4_put_0 : decode cX4_put 0 = .ok (.aload_n 0, 1) := by decide +kernel
theorem dX4_put_1 : decode cX4_put 1 = .ok (.ifnull 17, 3) := by decide +kernel
theorem dX4_put_4 : decode cX4_put 4 = .ok (.iload_n 1, 1) := by decide +kernel
theorem dX4_put_5 : decode cX4_put 5 = .ok (.ifCond .lt 13, 3) := by decide +kernel
theorem dX4_put_8 : decode cX4_put 8 = .ok (.iload_n 1, 1) := by decide +kernel
theorem dX4_put_9 : decode cX4_put 9 = .ok (.aload_n 0, 1) := by decide +kernel
theorem dX4_put_10 : decode cX4_put 10 = .ok (.arraylength, 1) := by decide +kernel
theorem dX4_put_11 : decode cX4_put 11 = .ok (.if_icmp .ge 7, 3) := by decide +kernel
theorem dX4_put_14 : decode cX4_put 14 = .ok (.aload_n 0, 1) := by decide +kernel
theorem dX4_put_15 : decode cX4_put 15 = .ok (.iload_n 1, 1) := by decide +kernel
theorem dX4_put_16 : decode cX4_put 16 = .ok (.iload_n 2, 1) := by decide +kernel
theorem dX4_put_17 : decode cX4_put 17 = .ok (.iastore, 1) := by decide +kernel
theorem dX4_put_18 : decode cX4_put 18 = .ok (.return_, 1) := by decide +kernel
theorem dX4_put__0 : decode cX4_put_ 0 = .ok (.aload_n 0, 1) := by decide +kernel
theorem dX4_put__1 : decode cX4_put_ 1 = .ok (.ifnull 17, 3) := by decide +kernel
theorem dX4_put__4 : decode cX4_put_ 4 = .ok (.iload_n 1, 1) := by decide +kernel
theorem dX4_put__5 : decode cX4_put_ 5 = .ok (.ifCond .lt 13, 3) := by decide +kernel
theorem dX4_put__8 : decode cX4_put_ 8 = .ok (.iload_n 1, 1) := by decide +kernel
theorem dX4_put__9 : decode cX4_put_ 9 = .ok (.aload_n 0, 1) := by decide +kernel
theorem dX4_put__10 : decode cX4_put_ 10 = .ok (.arraylength, 1) := by decide +kernel
theorem dX4_put__11 : decode cX4_put_ 11 = .ok (.if_icmp .ge 7, 3) := by decide +kernel
theorem dX4_put__14 : decode cX4_put_ 14 = .ok (.aload_n 0, 1) := by decide +kernel
theorem dX4_put__15 : decode cX4_put_ 15 = .ok (.iload_n 1, 1) := by decide +kernel
theorem dX4_put__16 : decode cX4_put_ 16 = .ok (.lload_n 2, 1) := by decide +kernel
theorem dX4_put__17 : decode cX4_put_ 17 = .ok (.lastore, 1) := by decide +kernel
theorem dX4_put__18 : decode cX4_put_ 18 = .ok (.return_, 1) := by decide +kernel
theorem dX4_reading_0 : decode cX4_reading 0 = .ok (.aload_n 0, 1) := by decide +kernel
theorem dX4_reading_1 : decode cX4_reading 1 = .ok (.iload_n 1, 1) := by decide +kernel
theorem dX4_reading_2 : decode cX4_reading 2 = .ok (.invokevirtual 66, 3) := by decide +kernel
theorem dX4_reading_5 : decode cX4_reading 5 = .ok (.iload_n 2, 1) := by decide +kernel
theorem dX4_reading_6 : decode cX4_reading 6 = .ok (.invokestatic 108, 3) := by decide +kernel
theorem dX4_reading_9 : decode cX4_reading 9 = .ok (.aload_n 0, 1) := by decide +kernel
theorem dX4_reading_10 : decode cX4_reading 10 = .ok (.iload_n 2, 1) := by decide +kernel
theorem dX4_reading_11 : decode cX4_reading 11 = .ok (.invokevirtual 113, 3) := by decide +kernel
theorem dX4_reading_14 : decode cX4_reading 14 = .ok (.astore 4, 2) := by decide +kernel
theorem dX4_reading_16 : decode cX4_reading 16 = .ok (.iload_n 3, 1) := by decide +kernel
theorem dX4_reading_17 : decode cX4_reading 17 = .ok (.ifCond .eq 11, 3) := by decide +kernel
theorem dX4_reading_20 : decode cX4_reading 20 = .ok (.aload 4, 2) := by decide +kernel
theorem dX4_reading_22 : decode cX4_reading 22 = .ok (.getfield 121, 3) := by decide +kernel
theorem dX4_reading_25 : decode cX4_reading 25 = .ok (.goto 8, 3) := by decide +kernel
theorem dX4_reading_28 : decode cX4_reading 28 = .ok (.aload 4, 2) := by decide +kernel
theorem dX4_reading_30 : decode cX4_reading 30 = .ok (.getfield 124, 3) := by decide +kernel
theorem dX4_reading_33 : decode cX4_reading 33 = .ok (.iload_n 1, 1) := by decide +kernel
theorem dX4_reading_34 : decode cX4_reading 34 = .ok (.invokestatic 74, 3) := by decide +kernel
theorem dX4_reading_37 : decode cX4_reading 37 = .ok (.ireturn, 1) := by decide +kernel
theorem dX4_setBattery_0 : decode cX4_setBattery 0 = .ok (.iload_n 1, 1) := by decide +kernel
theorem dX4_setBattery_1 : decode cX4_setBattery 1 = .ok (.iconst 0, 1) := by decide +kernel
theorem dX4_setBattery_2 : decode cX4_setBattery 2 = .ok (.sipush 20000, 3) := by decide +kernel
theorem dX4_setBattery_5 : decode cX4_setBattery 5 = .ok (.invokestatic 70, 3) := by decide +kernel
theorem dX4_setBattery_8 : decode cX4_setBattery 8 = .ok (.iload_n 2, 1) := by decide +kernel
theorem dX4_setBattery_9 : decode cX4_setBattery 9 = .ok (.iconst 0, 1) := by decide +kernel
theorem dX4_setBattery_10 : decode cX4_setBattery 10 = .ok (.sipush 5000, 3) := by decide +kernel
theorem dX4_setBattery_13 : decode cX4_setBattery 13 = .ok (.invokestatic 70, 3) := by decide +kernel
theorem dX4_setBattery_16 : decode cX4_setBattery 16 = .ok (.iload_n 3, 1) := by decide +kernel
theorem dX4_setBattery_17 : decode cX4_setBattery 17 = .ok (.iconst 1, 1) := by decide +kernel
theorem dX4_setBattery_18 : decode cX4_setBattery 18 = .ok (.bipush 100, 2) := by decide +kernel
theorem dX4_setBattery_20 : decode cX4_setBattery 20 = .ok (.invokestatic 70, 3) := by decide +kernel
theorem dX4_setBattery_23 : decode cX4_setBattery 23 = .ok (.aload_n 0, 1) := by decide +kernel
theorem dX4_setBattery_24 : decode cX4_setBattery 24 = .ok (.getfield 10, 3) := by decide +kernel
theorem dX4_setBattery_27 : decode cX4_setBattery 27 = .ok (.iload_n 1, 1) := by decide +kernel
theorem dX4_setBattery_28 : decode cX4_setBattery 28 = .ok (.putfield 90, 3) := by decide +kernel
theorem dX4_setBattery_31 : decode cX4_setBattery 31 = .ok (.aload_n 0, 1) := by decide +kernel
theorem dX4_setBattery_32 : decode cX4_setBattery 32 = .ok (.getfield 10, 3) := by decide +kernel
theorem dX4_setBattery_35 : decode cX4_setBattery 35 = .ok (.iload_n 2, 1) := by decide +kernel
theorem dX4_setBattery_36 : decode cX4_setBattery 36 = .ok (.putfield 93, 3) := by decide +kernel
theorem dX4_setBattery_39 : decode cX4_setBattery 39 = .ok (.aload_n 0, 1) := by decide +kernel
theorem dX4_setBattery_40 : decode cX4_setBattery 40 = .ok (.getfield 10, 3) := by decide +kernel
theorem dX4_setBattery_43 : decode cX4_setBattery 43 = .ok (.iload_n 3, 1) := by decide +kernel
theorem dX4_setBattery_44 : decode cX4_setBattery 44 = .ok (.putfield 96, 3) := by decide +kernel
theorem dX4_setBattery_47 : decode cX4_setBattery 47 = .ok (.aload_n 0, 1) := by decide +kernel
theorem dX4_setBattery_48 : decode cX4_setBattery 48 = .ok (.getfield 99, 3) := by decide +kernel
theorem dX4_setBattery_51 : decode cX4_setBattery 51 = .ok (.istore 4, 2) := by decide +kernel
theorem dX4_setBattery_53 : decode cX4_setBattery 53 = .ok (.aload_n 0, 1) := by decide +kernel
theorem dX4_setBattery_54 : decode cX4_setBattery 54 = .ok (.iload 4, 2) := by decide +kernel
theorem dX4_setBattery_56 : decode cX4_setBattery 56 = .ok (.iload_n 1, 1) := by decide +kernel
theorem dX4_setBattery_57 : decode cX4_setBattery 57 = .ok (.invokestatic 102, 3) := by decide +kernel
theorem dX4_setBattery_60 : decode cX4_setBattery 60 = .ok (.putfield 99, 3) := by decide +kernel
theorem dX4_setBattery_63 : decode cX4_setBattery 63 = .ok (.iload 4, 2) := by decide +kernel
theorem dX4_setBattery_65 : decode cX4_setBattery 65 = .ok (.aload_n 0, 1) := by decide +kernel
theorem dX4_setBattery_66 : decode cX4_setBattery 66 = .ok (.getfield 99, 3) := by decide +kernel
theorem dX4_setBattery_69 : decode cX4_setBattery 69 = .ok (.isub, 1) := by decide +kernel
theorem dX4_setBattery_70 : decode cX4_setBattery 70 = .ok (.ireturn, 1) := by decide +kernel
theorem dX4_setMember_0 : decode cX4_setMember 0 = .ok (.aload_n 0, 1) := by decide +kernel
theorem dX4_setMember_1 : decode cX4_setMember 1 = .ok (.iload_n 1, 1) := by decide +kernel
theorem dX4_setMember_2 : decode cX4_setMember 2 = .ok (.invokevirtual 66, 3) := by decide +kernel
theorem dX4_setMember_5 : decode cX4_setMember 5 = .ok (.iload_n 2, 1) := by decide +kernel
theorem dX4_setMember_6 : decode cX4_setMember 6 = .ok (.iconst 0, 1) := by decide +kernel
theorem dX4_setMember_7 : decode cX4_setMember 7 = .ok (.bipush 100, 2) := by decide +kernel
theorem dX4_setMember_9 : decode cX4_setMember 9 = .ok (.invokestatic 70, 3) := by decide +kernel
theorem dX4_setMember_12 : decode cX4_setMember 12 = .ok (.iload_n 3, 1) := by decide +kernel
theorem dX4_setMember_13 : decode cX4_setMember 13 = .ok (.iconst 0, 1) := by decide +kernel
theorem dX4_setMember_14 : decode cX4_setMember 14 = .ok (.bipush 99, 2) := by decide +kernel
theorem dX4_setMember_16 : decode cX4_setMember 16 = .ok (.invokestatic 70, 3) := by decide +kernel
theorem dX4_setMember_19 : decode cX4_setMember 19 = .ok (.aload_n 0, 1) := by decide +kernel
theorem dX4_setMember_20 : decode cX4_setMember 20 = .ok (.getfield 10, 3) := by decide +kernel
theorem dX4_setMember_23 : decode cX4_setMember 23 = .ok (.getfield 55, 3) := by decide +kernel
theorem dX4_setMember_26 : decode cX4_setMember 26 = .ok (.iload_n 1, 1) := by decide +kernel
theorem dX4_setMember_27 : decode cX4_setMember 27 = .ok (.invokestatic 74, 3) := by decide +kernel
theorem dX4_setMember_30 : decode cX4_setMember 30 = .ok (.istore 4, 2) := by decide +kernel
theorem dX4_setMember_32 : decode cX4_setMember 32 = .ok (.aload_n 0, 1) := by decide +kernel
theorem dX4_setMember_33 : decode cX4_setMember 33 = .ok (.getfield 10, 3) := by decide +kernel
theorem dX4_setMember_36 : decode cX4_setMember 36 = .ok (.getfield 55, 3) := by decide +kernel
theorem dX4_setMember_39 : decode cX4_setMember 39 = .ok (.iload_n 1, 1) := by decide +kernel
theorem dX4_setMember_40 : decode cX4_setMember 40 = .ok (.iload_n 2, 1) := by decide +kernel
theorem dX4_setMember_41 : decode cX4_setMember 41 = .ok (.invokestatic 59, 3) := by decide +kernel
theorem dX4_setMember_44 : decode cX4_setMember 44 = .ok (.aload_n 0, 1) := by decide +kernel
theorem dX4_setMember_45 : decode cX4_setMember 45 = .ok (.getfield 10, 3) := by decide +kernel
theorem dX4_setMember_48 : decode cX4_setMember 48 = .ok (.getfield 63, 3) := by decide +kernel
theorem dX4_setMember_51 : decode cX4_setMember 51 = .ok (.iload_n 1, 1) := by decide +kernel
theorem dX4_setMember_52 : decode cX4_setMember 52 = .ok (.iload_n 3, 1) := by decide +kernel
theorem dX4_setMember_53 : decode cX4_setMember 53 = .ok (.invokestatic 59, 3) := by decide +kernel
theorem dX4_setMember_56 : decode cX4_setMember 56 = .ok (.iload 4, 2) := by decide +kernel
theorem dX4_setMember_58 : decode cX4_setMember 58 = .ok (.ireturn, 1) := by decide +kernel
theorem dX4_setPrices_0 : decode cX4_setPrices 0 = .ok (.iload_n 1, 1) := by decide +kernel
theorem dX4_setPrices_1 : decode cX4_setPrices 1 = .ok (.iconst 0, 1) := by decide +kernel
theorem dX4_setPrices_2 : decode cX4_setPrices 2 = .ok (.bipush 100, 2) := by decide +kernel
theorem dX4_setPrices_4 : decode cX4_setPrices 4 = .ok (.invokestatic 70, 3) := by decide +kernel
theorem dX4_setPrices_7 : decode cX4_setPrices 7 = .ok (.iload_n 2, 1) := by decide +kernel
theorem dX4_setPrices_8 : decode cX4_setPrices 8 = .ok (.iconst 0, 1) := by decide +kernel
theorem dX4_setPrices_9 : decode cX4_setPrices 9 = .ok (.bipush 100, 2) := by decide +kernel
theorem dX4_setPrices_11 : decode cX4_setPrices 11 = .ok (.invokestatic 70, 3) := by decide +kernel
theorem dX4_setPrices_14 : decode cX4_setPrices 14 = .ok (.iload_n 3, 1) := by decide +kernel
theorem dX4_setPrices_15 : decode cX4_setPrices 15 = .ok (.iconst 0, 1) := by decide +kernel
theorem dX4_setPrices_16 : decode cX4_setPrices 16 = .ok (.bipush 100, 2) := by decide +kernel
theorem dX4_setPrices_18 : decode cX4_setPrices 18 = .ok (.invokestatic 70, 3) := by decide +kernel
theorem dX4_setPrices_21 : decode cX4_setPrices 21 = .ok (.aload_n 0, 1) := by decide +kernel
theorem dX4_setPrices_22 : decode cX4_setPrices 22 = .ok (.getfield 10, 3) := by decide +kernel
theorem dX4_setPrices_25 : decode cX4_setPrices 25 = .ok (.getfield 81, 3) := by decide +kernel
theorem dX4_setPrices_28 : decode cX4_setPrices 28 = .ok (.istore 4, 2) := by decide +kernel
theorem dX4_setPrices_30 : decode cX4_setPrices 30 = .ok (.aload_n 0, 1) := by decide +kernel
theorem dX4_setPrices_31 : decode cX4_setPrices 31 = .ok (.getfield 10, 3) := by decide +kernel
theorem dX4_setPrices_34 : decode cX4_setPrices 34 = .ok (.iload_n 1, 1) := by decide +kernel
theorem dX4_setPrices_35 : decode cX4_setPrices 35 = .ok (.putfield 84, 3) := by decide +kernel
theorem dX4_setPrices_38 : decode cX4_setPrices 38 = .ok (.aload_n 0, 1) := by decide +kernel
theorem dX4_setPrices_39 : decode cX4_setPrices 39 = .ok (.getfield 10, 3) := by decide +kernel
theorem dX4_setPrices_42 : decode cX4_setPrices 42 = .ok (.iload_n 2, 1) := by decide +kernel
theorem dX4_setPrices_43 : decode cX4_setPrices 43 = .ok (.putfield 87, 3) := by decide +kernel
theorem dX4_setPrices_46 : decode cX4_setPrices 46 = .ok (.aload_n 0, 1) := by decide +kernel
theorem dX4_setPrices_47 : decode cX4_setPrices 47 = .ok (.getfield 10, 3) := by decide +kernel
theorem dX4_setPrices_50 : decode cX4_setPrices 50 = .ok (.iload_n 3, 1) := by decide +kernel
theorem dX4_setPrices_51 : decode cX4_setPrices 51 = .ok (.putfield 81, 3) := by decide +kernel
theorem dX4_setPrices_54 : decode cX4_setPrices 54 = .ok (.iload 4, 2) := by decide +kernel
theorem dX4_setPrices_56 : decode cX4_setPrices 56 = .ok (.ireturn, 1) := by decide +kernel
theorem dX4_setRule_0 : decode cX4_setRule 0 = .ok (.iload_n 1, 1) := by decide +kernel
theorem dX4_setRule_1 : decode cX4_setRule 1 = .ok (.iconst 0, 1) := by decide +kernel
theorem dX4_setRule_2 : decode cX4_setRule 2 = .ok (.iconst 3, 1) := by decide +kernel
theorem dX4_setRule_3 : decode cX4_setRule 3 = .ok (.invokestatic 70, 3) := by decide +kernel
theorem dX4_setRule_6 : decode cX4_setRule 6 = .ok (.aload_n 0, 1) := by decide +kernel
theorem dX4_setRule_7 : decode cX4_setRule 7 = .ok (.getfield 10, 3) := by decide +kernel
theorem dX4_setRule_10 : decode cX4_setRule 10 = .ok (.getfield 78, 3) := by decide +kernel
theorem dX4_setRule_13 : decode cX4_setRule 13 = .ok (.istore_n 2, 1) := by decide +kernel
theorem dX4_setRule_14 : decode cX4_setRule 14 = .ok (.aload_n 0, 1) := by decide +kernel
theorem dX4_setRule_15 : decode cX4_setRule 15 = .ok (.getfield 10, 3) := by decide +kernel
theorem dX4_setRule_18 : decode cX4_setRule 18 = .ok (.iload_n 1, 1) := by decide +kernel
theorem dX4_setRule_19 : decode cX4_setRule 19 = .ok (.putfield 78, 3) := by decide +kernel
theorem dX4_setRule_22 : decode cX4_setRule 22 = .ok (.iload_n 2, 1) := by decide +kernel
theorem dX4_setRule_23 : decode cX4_setRule 23 = .ok (.ireturn, 1) := by decide +kernel
theorem dX4_setTrial_0 : decode cX4_setTrial 0 = .ok (.aload_n 0, 1) := by decide +kernel
theorem dX4_setTrial_1 : decode cX4_setTrial 1 = .ok (.getfield 23, 3) := by decide +kernel
theorem dX4_setTrial_4 : decode cX4_setTrial 4 = .ok (.aload_n 0, 1) := by decide +kernel
theorem dX4_setTrial_5 : decode cX4_setTrial 5 = .ok (.aload_n 0, 1) := by decide +kernel
theorem dX4_setTrial_6 : decode cX4_setTrial 6 = .ok (.getfield 45, 3) := by decide +kernel
theorem dX4_setTrial_9 : decode cX4_setTrial 9 = .ok (.invokevirtual 113, 3) := by decide +kernel
theorem dX4_setTrial_12 : decode cX4_setTrial 12 = .ok (.invokevirtual 219, 3) := by decide +kernel
theorem dX4_setTrial_15 : decode cX4_setTrial 15 = .ok (.aload_n 0, 1) := by decide +kernel
theorem dX4_setTrial_16 : decode cX4_setTrial 16 = .ok (.getfield 23, 3) := by decide +kernel
theorem dX4_setTrial_19 : decode cX4_setTrial 19 = .ok (.getfield 129, 3) := by decide +kernel
theorem dX4_setTrial_22 : decode cX4_setTrial 22 = .ok (.aload_n 0, 1) := by decide +kernel
theorem dX4_setTrial_23 : decode cX4_setTrial 23 = .ok (.getfield 10, 3) := by decide +kernel
theorem dX4_setTrial_26 : decode cX4_setTrial 26 = .ok (.invokevirtual 132, 3) := by decide +kernel
theorem dX4_setTrial_29 : decode cX4_setTrial 29 = .ok (.aload_n 0, 1) := by decide +kernel
theorem dX4_setTrial_30 : decode cX4_setTrial 30 = .ok (.getfield 23, 3) := by decide +kernel
theorem dX4_setTrial_33 : decode cX4_setTrial 33 = .ok (.getfield 129, 3) := by decide +kernel
theorem dX4_setTrial_36 : decode cX4_setTrial 36 = .ok (.iload_n 1, 1) := by decide +kernel
theorem dX4_setTrial_37 : decode cX4_setTrial 37 = .ok (.putfield 78, 3) := by decide +kernel
theorem dX4_setTrial_40 : decode cX4_setTrial 40 = .ok (.aload_n 0, 1) := by decide +kernel
theorem dX4_setTrial_41 : decode cX4_setTrial 41 = .ok (.getfield 23, 3) := by decide +kernel
theorem dX4_setTrial_44 : decode cX4_setTrial 44 = .ok (.aload_n 0, 1) := by decide +kernel
theorem dX4_setTrial_45 : decode cX4_setTrial 45 = .ok (.getfield 99, 3) := by decide +kernel
theorem dX4_setTrial_48 : decode cX4_setTrial 48 = .ok (.putfield 136, 3) := by decide +kernel
theorem dX4_setTrial_51 : decode cX4_setTrial 51 = .ok (.return_, 1) := by decide +kernel
theorem dX4_settle_0 : decode cX4_settle 0 = .ok (.iload_n 1, 1) := by decide +kernel
theorem dX4_settle_1 : decode cX4_settle 1 = .ok (.iconst 0, 1) := by decide +kernel
theorem dX4_settle_2 : decode cX4_settle 2 = .ok (.sipush 10000, 3) := by decide +kernel
theorem dX4_settle_5 : decode cX4_settle 5 = .ok (.invokestatic 70, 3) := by decide +kernel
theorem dX4_settle_8 : decode cX4_settle 8 = .ok (.iconst 0, 1) := by decide +kernel
theorem dX4_settle_9 : decode cX4_settle 9 = .ok (.istore_n 2, 1) := by decide +kernel
theorem dX4_settle_10 : decode cX4_settle 10 = .ok (.iload_n 2, 1) := by decide +kernel
theorem dX4_settle_11 : decode cX4_settle 11 = .ok (.aload_n 0, 1) := by decide +kernel
theorem dX4_settle_12 : decode cX4_settle 12 = .ok (.getfield 41, 3) := by decide +kernel
theorem dX4_settle_15 : decode cX4_settle 15 = .ok (.if_icmp .ge 48, 3) := by decide +kernel
theorem dX4_settle_18 : decode cX4_settle 18 = .ok (.aload_n 0, 1) := by decide +kernel
theorem dX4_settle_19 : decode cX4_settle 19 = .ok (.getfield 38, 3) := by decide +kernel
theorem dX4_settle_22 : decode cX4_settle 22 = .ok (.iload_n 2, 1) := by decide +kernel
theorem dX4_settle_23 : decode cX4_settle 23 = .ok (.aload_n 0, 1) := by decide +kernel
theorem dX4_settle_24 : decode cX4_settle 24 = .ok (.getfield 34, 3) := by decide +kernel
theorem dX4_settle_27 : decode cX4_settle 27 = .ok (.iload_n 2, 1) := by decide +kernel
theorem dX4_settle_28 : decode cX4_settle 28 = .ok (.invokestatic 159, 3) := by decide +kernel
theorem dX4_settle_31 : decode cX4_settle 31 = .ok (.iload_n 1, 1) := by decide +kernel
theorem dX4_settle_32 : decode cX4_settle 32 = .ok (.i2l, 1) := by decide +kernel
theorem dX4_settle_33 : decode cX4_settle 33 = .ok (.lsub, 1) := by decide +kernel
theorem dX4_settle_34 : decode cX4_settle 34 = .ok (.invokestatic 188, 3) := by decide +kernel
theorem dX4_settle_37 : decode cX4_settle 37 = .ok (.aload_n 0, 1) := by decide +kernel
theorem dX4_settle_38 : decode cX4_settle 38 = .ok (.getfield 34, 3) := by decide +kernel
theorem dX4_settle_41 : decode cX4_settle 41 = .ok (.iload_n 2, 1) := by decide +kernel
theorem dX4_settle_42 : decode cX4_settle 42 = .ok (.lconst 0, 1) := by decide +kernel
theorem dX4_settle_43 : decode cX4_settle 43 = .ok (.invokestatic 192, 3) := by decide +kernel
theorem dX4_settle_46 : decode cX4_settle 46 = .ok (.aload_n 0, 1) := by decide +kernel
theorem dX4_settle_47 : decode cX4_settle 47 = .ok (.dup, 1) := by decide +kernel
theorem dX4_settle_48 : decode cX4_settle 48 = .ok (.getfield 178, 3) := by decide +kernel
theorem dX4_settle_51 : decode cX4_settle 51 = .ok (.iload_n 1, 1) := by decide +kernel
theorem dX4_settle_52 : decode cX4_settle 52 = .ok (.i2l, 1) := by decide +kernel
theorem dX4_settle_53 : decode cX4_settle 53 = .ok (.ladd, 1) := by decide +kernel
theorem dX4_settle_54 : decode cX4_settle 54 = .ok (.putfield 178, 3) := by decide +kernel
theorem dX4_settle_57 : decode cX4_settle 57 = .ok (.iinc 2 1, 3) := by decide +kernel
theorem dX4_settle_60 : decode cX4_settle 60 = .ok (.goto (-50), 3) := by decide +kernel
theorem dX4_settle_63 : decode cX4_settle 63 = .ok (.aload_n 0, 1) := by decide +kernel
theorem dX4_settle_64 : decode cX4_settle 64 = .ok (.getfield 45, 3) := by decide +kernel
theorem dX4_settle_67 : decode cX4_settle 67 = .ok (.aload_n 0, 1) := by decide +kernel
theorem dX4_settle_68 : decode cX4_settle 68 = .ok (.getfield 154, 3) := by decide +kernel
theorem dX4_settle_71 : decode cX4_settle 71 = .ok (.isub, 1) := by decide +kernel
theorem dX4_settle_72 : decode cX4_settle 72 = .ok (.istore_n 2, 1) := by decide +kernel
theorem dX4_settle_73 : decode cX4_settle 73 = .ok (.aload_n 0, 1) := by decide +kernel
theorem dX4_settle_74 : decode cX4_settle 74 = .ok (.aload_n 0, 1) := by decide +kernel
theorem dX4_settle_75 : decode cX4_settle 75 = .ok (.getfield 45, 3) := by decide +kernel
theorem dX4_settle_78 : decode cX4_settle 78 = .ok (.putfield 154, 3) := by decide +kernel
theorem dX4_settle_81 : decode cX4_settle 81 = .ok (.iload_n 2, 1) := by decide +kernel
theorem dX4_settle_82 : decode cX4_settle 82 = .ok (.ireturn, 1) := by decide +kernel
theorem dX4_slotAt_0 : decode cX4_slotAt 0 = .ok (.iload_n 1, 1) := by decide +kernel
theorem dX4_slotAt_1 : decode cX4_slotAt 1 = .ok (.ifCond .lt 21, 3) := by decide +kernel
theorem dX4_slotAt_4 : decode cX4_slotAt 4 = .ok (.iload_n 1, 1) := by decide +kernel
theorem dX4_slotAt_5 : decode cX4_slotAt 5 = .ok (.aload_n 0, 1) := by decide +kernel
theorem dX4_slotAt_6 : decode cX4_slotAt 6 = .ok (.getfield 18, 3) := by decide +kernel
theorem dX4_slotAt_9 : decode cX4_slotAt 9 = .ok (.arraylength, 1) := by decide +kernel
theorem dX4_slotAt_10 : decode cX4_slotAt 10 = .ok (.if_icmp .ge 12, 3) := by decide +kernel
theorem dX4_slotAt_13 : decode cX4_slotAt 13 = .ok (.aload_n 0, 1) := by decide +kernel
theorem dX4_slotAt_14 : decode cX4_slotAt 14 = .ok (.getfield 18, 3) := by decide +kernel
theorem dX4_slotAt_17 : decode cX4_slotAt 17 = .ok (.iload_n 1, 1) := by decide +kernel
theorem dX4_slotAt_18 : decode cX4_slotAt 18 = .ok (.aaload, 1) := by decide +kernel
theorem dX4_slotAt_19 : decode cX4_slotAt 19 = .ok (.goto 4, 3) := by decide +kernel
theorem dX4_slotAt_22 : decode cX4_slotAt 22 = .ok (.aconst_null, 1) := by decide +kernel
theorem dX4_slotAt_23 : decode cX4_slotAt 23 = .ok (.astore_n 2, 1) := by decide +kernel
theorem dX4_slotAt_24 : decode cX4_slotAt 24 = .ok (.aload_n 2, 1) := by decide +kernel
theorem dX4_slotAt_25 : decode cX4_slotAt 25 = .ok (.ifnull 7, 3) := by decide +kernel
theorem dX4_slotAt_28 : decode cX4_slotAt 28 = .ok (.aload_n 2, 1) := by decide +kernel
theorem dX4_slotAt_29 : decode cX4_slotAt 29 = .ok (.goto 7, 3) := by decide +kernel
theorem dX4_slotAt_32 : decode cX4_slotAt 32 = .ok (.aload_n 0, 1) := by decide +kernel
theorem dX4_slotAt_33 : decode cX4_slotAt 33 = .ok (.getfield 23, 3) := by decide +kernel
theorem dX4_slotAt_36 : decode cX4_slotAt 36 = .ok (.areturn, 1) := by decide +kernel
theorem dX4_would_0 : decode cX4_would 0 = .ok (.aload_n 0, 1) := by decide +kernel
theorem dX4_would_1 : decode cX4_would 1 = .ok (.iload_n 1, 1) := by decide +kernel
theorem dX4_would_2 : decode cX4_would 2 = .ok (.invokevirtual 66, 3) := by decide +kernel
theorem dX4_would_5 : decode cX4_would 5 = .ok (.iload_n 2, 1) := by decide +kernel
theorem dX4_would_6 : decode cX4_would 6 = .ok (.iconst 0, 1) := by decide +kernel
theorem dX4_would_7 : decode cX4_would 7 = .ok (.iconst 3, 1) := by decide +kernel
theorem dX4_would_8 : decode cX4_would 8 = .ok (.invokestatic 70, 3) := by decide +kernel
theorem dX4_would_11 : decode cX4_would 11 = .ok (.aload_n 0, 1) := by decide +kernel
theorem dX4_would_12 : decode cX4_would 12 = .ok (.invokevirtual 172, 3) := by decide +kernel
theorem dX4_would_15 : decode cX4_would 15 = .ok (.aload_n 0, 1) := by decide +kernel
theorem dX4_would_16 : decode cX4_would 16 = .ok (.iload_n 2, 1) := by decide +kernel
theorem dX4_would_17 : decode cX4_would 17 = .ok (.invokevirtual 175, 3) := by decide +kernel
theorem dX4_would_20 : decode cX4_would 20 = .ok (.aload_n 0, 1) := by decide +kernel
theorem dX4_would_21 : decode cX4_would 21 = .ok (.getfield 30, 3) := by decide +kernel
theorem dX4_would_24 : decode cX4_would 24 = .ok (.aload_n 0, 1) := by decide +kernel
theorem dX4_would_25 : decode cX4_would 25 = .ok (.getfield 23, 3) := by decide +kernel
theorem dX4_would_28 : decode cX4_would 28 = .ok (.invokevirtual 139, 3) := by decide +kernel
theorem dX4_would_31 : decode cX4_would 31 = .ok (.aload_n 0, 1) := by decide +kernel
theorem dX4_would_32 : decode cX4_would 32 = .ok (.getfield 23, 3) := by decide +kernel
theorem dX4_would_35 : decode cX4_would 35 = .ok (.iload_n 1, 1) := by decide +kernel
theorem dX4_would_36 : decode cX4_would 36 = .ok (.bipush 7, 2) := by decide +kernel
theorem dX4_would_38 : decode cX4_would 38 = .ok (.invokevirtual 169, 3) := by decide +kernel
theorem dX4_would_41 : decode cX4_would 41 = .ok (.ireturn, 1) := by decide +kernel
theorem dX5_account_0 : decode cX5_account 0 = .ok (.aload_n 0, 1) := by decide +kernel
theorem dX5_account_1 : decode cX5_account 1 = .ok (.aload_n 0, 1) := by decide +kernel
theorem dX5_account_2 : decode cX5_account 2 = .ok (.iload_n 1, 1) := by decide +kernel
theorem dX5_account_3 : decode cX5_account 3 = .ok (.invokevirtual 55, 3) := by decide +kernel
theorem dX5_account_6 : decode cX5_account 6 = .ok (.ifCond .eq 7, 3) := by decide +kernel
theorem dX5_account_9 : decode cX5_account 9 = .ok (.iconst 0, 1) := by decide +kernel
theorem dX5_account_10 : decode cX5_account 10 = .ok (.goto 4, 3) := by decide +kernel
theorem dX5_account_13 : decode cX5_account 13 = .ok (.iconst 1, 1) := by decide +kernel
theorem dX5_account_14 : decode cX5_account 14 = .ok (.putfield 35, 3) := by decide +kernel
theorem dX5_account_17 : decode cX5_account 17 = .ok (.aload_n 0, 1) := by decide +kernel
theorem dX5_account_18 : decode cX5_account 18 = .ok (.getfield 35, 3) := by decide +kernel
theorem dX5_account_21 : decode cX5_account 21 = .ok (.ifCond .eq 7, 3) := by decide +kernel
theorem dX5_account_24 : decode cX5_account 24 = .ok (.lconst 0, 1) := by decide +kernel
theorem dX5_account_25 : decode cX5_account 25 = .ok (.goto 22, 3) := by decide +kernel
theorem dX5_account_28 : decode cX5_account 28 = .ok (.iload_n 2, 1) := by decide +kernel
theorem dX5_account_29 : decode cX5_account 29 = .ok (.ifCond .eq 12, 3) := by decide +kernel
theorem dX5_account_32 : decode cX5_account 32 = .ok (.aload_n 0, 1) := by decide +kernel
theorem dX5_account_33 : decode cX5_account 33 = .ok (.getfield 32, 3) := by decide +kernel
theorem dX5_account_36 : decode cX5_account 36 = .ok (.iload_n 1, 1) := by decide +kernel
theorem dX5_account_37 : decode cX5_account 37 = .ok (.laload, 1) := by decide +kernel
theorem dX5_account_38 : decode cX5_account 38 = .ok (.goto 9, 3) := by decide +kernel
theorem dX5_account_41 : decode cX5_account 41 = .ok (.aload_n 0, 1) := by decide +kernel
theorem dX5_account_42 : decode cX5_account 42 = .ok (.getfield 28, 3) := by decide +kernel
theorem dX5_account_45 : decode cX5_account 45 = .ok (.iload_n 1, 1) := by decide +kernel
theorem dX5_account_46 : decode cX5_account 46 = .ok (.laload, 1) := by decide +kernel
theorem dX5_account_47 : decode cX5_account 47 = .ok (.lreturn, 1) := by decide +kernel
theorem dX5_addMember_0 : decode cX5_addMember 0 = .ok (.aload_n 0, 1) := by decide +kernel
theorem dX5_addMember_1 : decode cX5_addMember 1 = .ok (.iconst 0, 1) := by decide +kernel
theorem dX5_addMember_2 : decode cX5_addMember 2 = .ok (.putfield 35, 3) := by decide +kernel
theorem dX5_addMember_5 : decode cX5_addMember 5 = .ok (.aload_n 0, 1) := by decide +kernel
theorem dX5_addMember_6 : decode cX5_addMember 6 = .ok (.getfield 39, 3) := by decide +kernel
theorem dX5_addMember_9 : decode cX5_addMember 9 = .ok (.bipush 6, 2) := by decide +kernel
theorem dX5_addMember_11 : decode cX5_addMember 11 = .ok (.if_icmp .eq 10, 3) := by decide +kernel
theorem dX5_addMember_14 : decode cX5_addMember 14 = .ok (.aload_n 0, 1) := by decide +kernel
theorem dX5_addMember_15 : decode cX5_addMember 15 = .ok (.getfield 48, 3) := by decide +kernel
theorem dX5_addMember_18 : decode cX5_addMember 18 = .ok (.ifCond .le 9, 3) := by decide +kernel
theorem dX5_addMember_21 : decode cX5_addMember 21 = .ok (.aload_n 0, 1) := by decide +kernel
theorem dX5_addMember_22 : decode cX5_addMember 22 = .ok (.iconst 1, 1) := by decide +kernel
theorem dX5_addMember_23 : decode cX5_addMember 23 = .ok (.invokevirtual 51, 3) := by decide +kernel
theorem dX5_addMember_26 : decode cX5_addMember 26 = .ok (.ireturn, 1) := by decide +kernel
theorem dX5_addMember_27 : decode cX5_addMember 27 = .ok (.aload_n 0, 1) := by decide +kernel
theorem dX5_addMember_28 : decode cX5_addMember 28 = .ok (.getfield 9, 3) := by decide +kernel
theorem dX5_addMember_31 : decode cX5_addMember 31 = .ok (.bipush 7, 2) := by decide +kernel
theorem dX5_addMember_33 : decode cX5_addMember 33 = .ok (.aload_n 0, 1) := by decide +kernel
theorem dX5_addMember_34 : decode cX5_addMember 34 = .ok (.getfield 39, 3) := by decide +kernel
theorem dX5_addMember_37 : decode cX5_addMember 37 = .ok (.iadd, 1) := by decide +kernel
theorem dX5_addMember_38 : decode cX5_addMember 38 = .ok (.bipush 10, 2) := by decide +kernel
theorem dX5_addMember_40 : decode cX5_addMember 40 = .ok (.iastore, 1) := by decide +kernel
theorem dX5_addMember_41 : decode cX5_addMember 41 = .ok (.aload_n 0, 1) := by decide +kernel
theorem dX5_addMember_42 : decode cX5_addMember 42 = .ok (.getfield 9, 3) := by decide +kernel
theorem dX5_addMember_45 : decode cX5_addMember 45 = .ok (.bipush 13, 2) := by decide +kernel
theorem dX5_addMember_47 : decode cX5_addMember 47 = .ok (.aload_n 0, 1) := by decide +kernel
theorem dX5_addMember_48 : decode cX5_addMember 48 = .ok (.getfield 39, 3) := by decide +kernel
theorem dX5_addMember_51 : decode cX5_addMember 51 = .ok (.iadd, 1) := by decide +kernel
theorem dX5_addMember_52 : decode cX5_addMember 52 = .ok (.aload_n 0, 1) := by decide +kernel
theorem dX5_addMember_53 : decode cX5_addMember 53 = .ok (.getfield 39, 3) := by decide +kernel
theorem dX5_addMember_56 : decode cX5_addMember 56 = .ok (.iastore, 1) := by decide +kernel
theorem dX5_addMember_57 : decode cX5_addMember 57 = .ok (.aload_n 0, 1) := by decide +kernel
theorem dX5_addMember_58 : decode cX5_addMember 58 = .ok (.dup, 1) := by decide +kernel
theorem dX5_addMember_59 : decode cX5_addMember 59 = .ok (.getfield 39, 3) := by decide +kernel
theorem dX5_addMember_62 : decode cX5_addMember 62 = .ok (.iconst 1, 1) := by decide +kernel
theorem dX5_addMember_63 : decode cX5_addMember 63 = .ok (.iadd, 1) := by decide +kernel
theorem dX5_addMember_64 : decode cX5_addMember 64 = .ok (.putfield 39, 3) := by decide +kernel
theorem dX5_addMember_67 : decode cX5_addMember 67 = .ok (.aload_n 0, 1) := by decide +kernel
theorem dX5_addMember_68 : decode cX5_addMember 68 = .ok (.getfield 39, 3) := by decide +kernel
theorem dX5_addMember_71 : decode cX5_addMember 71 = .ok (.iconst 1, 1) := by decide +kernel
theorem dX5_addMember_72 : decode cX5_addMember 72 = .ok (.isub, 1) := by decide +kernel
theorem dX5_addMember_73 : decode cX5_addMember 73 = .ok (.ireturn, 1) := by decide +kernel
theorem dX5_bestRule_0 : decode cX5_bestRule 0 = .ok (.aload_n 0, 1) := by decide +kernel
theorem dX5_bestRule_1 : decode cX5_bestRule 1 = .ok (.aload_n 0, 1) := by decide +kernel
theorem dX5_bestRule_2 : decode cX5_bestRule 2 = .ok (.iload_n 1, 1) := by decide +kernel
theorem dX5_bestRule_3 : decode cX5_bestRule 3 = .ok (.invokevirtual 55, 3) := by decide +kernel
theorem dX5_bestRule_6 : decode cX5_bestRule 6 = .ok (.ifCond .ne 7, 3) := by decide +kernel
theorem dX5_bestRule_9 : decode cX5_bestRule 9 = .ok (.iconst 1, 1) := by decide +kernel
theorem dX5_bestRule_10 : decode cX5_bestRule 10 = .ok (.goto 17, 3) := by decide +kernel
theorem dX5_bestRule_13 : decode cX5_bestRule 13 = .ok (.aload_n 0, 1) := by decide +kernel
theorem dX5_bestRule_14 : decode cX5_bestRule 14 = .ok (.getfield 48, 3) := by decide +kernel
theorem dX5_bestRule_17 : decode cX5_bestRule 17 = .ok (.bipush 48, 2) := by decide +kernel
theorem dX5_bestRule_19 : decode cX5_bestRule 19 = .ok (.if_icmp .ne 7, 3) := by decide +kernel
theorem dX5_bestRule_22 : decode cX5_bestRule 22 = .ok (.iconst 2, 1) := by decide +kernel
theorem dX5_bestRule_23 : decode cX5_bestRule 23 = .ok (.goto 4, 3) := by decide +kernel
theorem dX5_bestRule_26 : decode cX5_bestRule 26 = .ok (.iconst 0, 1) := by decide +kernel
theorem dX5_bestRule_27 : decode cX5_bestRule 27 = .ok (.putfield 35, 3) := by decide +kernel
theorem dX5_bestRule_30 : decode cX5_bestRule 30 = .ok (.iconst 0, 1) := by decide +kernel
theorem dX5_bestRule_31 : decode cX5_bestRule 31 = .ok (.istore_n 2, 1) := by decide +kernel
theorem dX5_bestRule_32 : decode cX5_bestRule 32 = .ok (.iconst 1, 1) := by decide +kernel
theorem dX5_bestRule_33 : decode cX5_bestRule 33 = .ok (.istore_n 3, 1) := by decide +kernel
theorem dX5_bestRule_34 : decode cX5_bestRule 34 = .ok (.iload_n 3, 1) := by decide +kernel
theorem dX5_bestRule_35 : decode cX5_bestRule 35 = .ok (.iconst 3, 1) := by decide +kernel
theorem dX5_bestRule_36 : decode cX5_bestRule 36 = .ok (.if_icmp .gt 33, 3) := by decide +kernel
theorem dX5_bestRule_39 : decode cX5_bestRule 39 = .ok (.aload_n 0, 1) := by decide +kernel
theorem dX5_bestRule_40 : decode cX5_bestRule 40 = .ok (.getfield 35, 3) := by decide +kernel
theorem dX5_bestRule_43 : decode cX5_bestRule 43 = .ok (.ifCond .ne 26, 3) := by decide +kernel
theorem dX5_bestRule_46 : decode cX5_bestRule 46 = .ok (.aload_n 0, 1) := by decide +kernel
theorem dX5_bestRule_47 : decode cX5_bestRule 47 = .ok (.iload_n 1, 1) := by decide +kernel
theorem dX5_bestRule_48 : decode cX5_bestRule 48 = .ok (.iload_n 3, 1) := by decide +kernel
theorem dX5_bestRule_49 : decode cX5_bestRule 49 = .ok (.invokevirtual 166, 3) := by decide +kernel
theorem dX5_bestRule_52 : decode cX5_bestRule 52 = .ok (.aload_n 0, 1) := by decide +kernel
theorem dX5_bestRule_53 : decode cX5_bestRule 53 = .ok (.iload_n 1, 1) := by decide +kernel
theorem dX5_bestRule_54 : decode cX5_bestRule 54 = .ok (.iload_n 2, 1) := by decide +kernel
theorem dX5_bestRule_55 : decode cX5_bestRule 55 = .ok (.invokevirtual 166, 3) := by decide +kernel
theorem dX5_bestRule_58 : decode cX5_bestRule 58 = .ok (.if_icmp .le 5, 3) := by decide +kernel
theorem dX5_bestRule_61 : decode cX5_bestRule 61 = .ok (.iload_n 3, 1) := by decide +kernel
theorem dX5_bestRule_62 : decode cX5_bestRule 62 = .ok (.istore_n 2, 1) := by decide +kernel
theorem dX5_bestRule_63 : decode cX5_bestRule 63 = .ok (.iinc 3 1, 3) := by decide +kernel
theorem dX5_bestRule_66 : decode cX5_bestRule 66 = .ok (.goto (-32), 3) := by decide +kernel
theorem dX5_bestRule_69 : decode cX5_bestRule 69 = .ok (.iload_n 2, 1) := by decide +kernel
theorem dX5_bestRule_70 : decode cX5_bestRule 70 = .ok (.ireturn, 1) := by decide +kernel
theorem dX5_book_0 : decode cX5_book 0 = .ok (.aload_n 0, 1) := by decide +kernel
theorem dX5_book_1 : decode cX5_book 1 = .ok (.iload_n 1, 1) := by decide +kernel
theorem dX5_book_2 : decode cX5_book 2 = .ok (.invokevirtual 128, 3) := by decide +kernel
theorem dX5_book_5 : decode cX5_book 5 = .ok (.astore_n 3, 1) := by decide +kernel
theorem dX5_book_6 : decode cX5_book 6 = .ok (.iconst 0, 1) := by decide +kernel
theorem dX5_book_7 : decode cX5_book 7 = .ok (.istore 4, 2) := by decide +kernel
theorem dX5_book_9 : decode cX5_book 9 = .ok (.iload 4, 2) := by decide +kernel
theorem dX5_book_11 : decode cX5_book 11 = .ok (.aload_n 0, 1) := by decide +kernel
theorem dX5_book_12 : decode cX5_book 12 = .ok (.getfield 39, 3) := by decide +kernel
theorem dX5_book_15 : decode cX5_book 15 = .ok (.if_icmp .ge 119, 3) := by decide +kernel
theorem dX5_book_18 : decode cX5_book 18 = .ok (.bipush 8, 2) := by decide +kernel
theorem dX5_book_20 : decode cX5_book 20 = .ok (.bipush 6, 2) := by decide +kernel
theorem dX5_book_22 : decode cX5_book 22 = .ok (.iload_n 1, 1) := by decide +kernel
theorem dX5_book_23 : decode cX5_book 23 = .ok (.imul, 1) := by decide +kernel
theorem dX5_book_24 : decode cX5_book 24 = .ok (.iload 4, 2) := by decide +kernel
theorem dX5_book_26 : decode cX5_book 26 = .ok (.iadd, 1) := by decide +kernel
theorem dX5_book_27 : decode cX5_book 27 = .ok (.imul, 1) := by decide +kernel
theorem dX5_book_28 : decode cX5_book 28 = .ok (.istore 5, 2) := by decide +kernel
theorem dX5_book_30 : decode cX5_book 30 = .ok (.aload_n 0, 1) := by decide +kernel
theorem dX5_book_31 : decode cX5_book 31 = .ok (.getfield 28, 3) := by decide +kernel
theorem dX5_book_34 : decode cX5_book 34 = .ok (.iload 4, 2) := by decide +kernel
theorem dX5_book_36 : decode cX5_book 36 = .ok (.dup2, 1) := by decide +kernel
theorem dX5_book_37 : decode cX5_book 37 = .ok (.laload, 1) := by decide +kernel
theorem dX5_book_38 : decode cX5_book 38 = .ok (.iload_n 2, 1) := by decide +kernel
theorem dX5_book_39 : decode cX5_book 39 = .ok (.aload_n 0, 1) := by decide +kernel
theorem dX5_book_40 : decode cX5_book 40 = .ok (.getfield 25, 3) := by decide +kernel
theorem dX5_book_43 : decode cX5_book 43 = .ok (.iload 5, 2) := by decide +kernel
theorem dX5_book_45 : decode cX5_book 45 = .ok (.bipush 7, 2) := by decide +kernel
theorem dX5_book_47 : decode cX5_book 47 = .ok (.iadd, 1) := by decide +kernel
theorem dX5_book_48 : decode cX5_book 48 = .ok (.iaload, 1) := by decide +kernel
theorem dX5_book_49 : decode cX5_book 49 = .ok (.imul, 1) := by decide +kernel
theorem dX5_book_50 : decode cX5_book 50 = .ok (.i2l, 1) := by decide +kernel
theorem dX5_book_51 : decode cX5_book 51 = .ok (.ladd, 1) := by decide +kernel
theorem dX5_book_52 : decode cX5_book 52 = .ok (.lastore, 1) := by decide +kernel
theorem dX5_book_53 : decode cX5_book 53 = .ok (.aload_n 0, 1) := by decide +kernel
theorem dX5_book_54 : decode cX5_book 54 = .ok (.dup, 1) := by decide +kernel
theorem dX5_book_55 : decode cX5_book 55 = .ok (.getfield 132, 3) := by decide +kernel
theorem dX5_book_58 : decode cX5_book 58 = .ok (.iload_n 2, 1) := by decide +kernel
theorem dX5_book_59 : decode cX5_book 59 = .ok (.aload_n 3, 1) := by decide +kernel
theorem dX5_book_60 : decode cX5_book 60 = .ok (.iconst 3, 1) := by decide +kernel
theorem dX5_book_61 : decode cX5_book 61 = .ok (.iaload, 1) := by decide +kernel
theorem dX5_book_62 : decode cX5_book 62 = .ok (.imul, 1) := by decide +kernel
theorem dX5_book_63 : decode cX5_book 63 = .ok (.aload_n 0, 1) := by decide +kernel
theorem dX5_book_64 : decode cX5_book 64 = .ok (.getfield 25, 3) := by decide +kernel
theorem dX5_book_67 : decode cX5_book 67 = .ok (.iload 5, 2) := by decide +kernel
theorem dX5_book_69 : decode cX5_book 69 = .ok (.iconst 2, 1) := by decide +kernel
theorem dX5_book_70 : decode cX5_book 70 = .ok (.iadd, 1) := by decide +kernel
theorem dX5_book_71 : decode cX5_book 71 = .ok (.iaload, 1) := by decide +kernel
theorem dX5_book_72 : decode cX5_book 72 = .ok (.aload_n 0, 1) := by decide +kernel
theorem dX5_book_73 : decode cX5_book 73 = .ok (.getfield 25, 3) := by decide +kernel
theorem dX5_book_76 : decode cX5_book 76 = .ok (.iload 5, 2) := by decide +kernel
theorem dX5_book_78 : decode cX5_book 78 = .ok (.iconst 5, 1) := by decide +kernel
theorem dX5_book_79 : decode cX5_book 79 = .ok (.iadd, 1) := by decide +kernel
theorem dX5_book_80 : decode cX5_book 80 = .ok (.iaload, 1) := by decide +kernel
theorem dX5_book_81 : decode cX5_book 81 = .ok (.isub, 1) := by decide +kernel
theorem dX5_book_82 : decode cX5_book 82 = .ok (.imul, 1) := by decide +kernel
theorem dX5_book_83 : decode cX5_book 83 = .ok (.i2l, 1) := by decide +kernel
theorem dX5_book_84 : decode cX5_book 84 = .ok (.ladd, 1) := by decide +kernel
theorem dX5_book_85 : decode cX5_book 85 = .ok (.putfield 132, 3) := by decide +kernel
theorem dX5_book_88 : decode cX5_book 88 = .ok (.aload_n 0, 1) := by decide +kernel
theorem dX5_book_89 : decode cX5_book 89 = .ok (.dup, 1) := by decide +kernel
theorem dX5_book_90 : decode cX5_book 90 = .ok (.getfield 136, 3) := by decide +kernel
theorem dX5_book_93 : decode cX5_book 93 = .ok (.iload_n 2, 1) := by decide +kernel
theorem dX5_book_94 : decode cX5_book 94 = .ok (.aload_n 3, 1) := by decide +kernel
theorem dX5_book_95 : decode cX5_book 95 = .ok (.iconst 1, 1) := by decide +kernel
theorem dX5_book_96 : decode cX5_book 96 = .ok (.iaload, 1) := by decide +kernel
theorem dX5_book_97 : decode cX5_book 97 = .ok (.aload_n 0, 1) := by decide +kernel
theorem dX5_book_98 : decode cX5_book 98 = .ok (.getfield 25, 3) := by decide +kernel
theorem dX5_book_101 : decode cX5_book 101 = .ok (.iload 5, 2) := by decide +kernel
theorem dX5_book_103 : decode cX5_book 103 = .ok (.iconst 3, 1) := by decide +kernel
theorem dX5_book_104 : decode cX5_book 104 = .ok (.iadd, 1) := by decide +kernel
theorem dX5_book_105 : decode cX5_book 105 = .ok (.iaload, 1) := by decide +kernel
theorem dX5_book_106 : decode cX5_book 106 = .ok (.imul, 1) := by decide +kernel
theorem dX5_book_107 : decode cX5_book 107 = .ok (.aload_n 3, 1) := by decide +kernel
theorem dX5_book_108 : decode cX5_book 108 = .ok (.iconst 2, 1) := by decide +kernel
theorem dX5_book_109 : decode cX5_book 109 = .ok (.iaload, 1) := by decide +kernel
theorem dX5_book_110 : decode cX5_book 110 = .ok (.aload_n 0, 1) := by decide +kernel
theorem dX5_book_111 : decode cX5_book 111 = .ok (.getfield 25, 3) := by decide +kernel
theorem dX5_book_114 : decode cX5_book 114 = .ok (.iload 5, 2) := by decide +kernel
theorem dX5_book_116 : decode cX5_book 116 = .ok (.bipush 6, 2) := by decide +kernel
theorem dX5_book_118 : decode cX5_book 118 = .ok (.iadd, 1) := by decide +kernel
theorem dX5_book_119 : decode cX5_book 119 = .ok (.iaload, 1) := by decide +kernel
theorem dX5_book_120 : decode cX5_book 120 = .ok (.imul, 1) := by decide +kernel
theorem dX5_book_121 : decode cX5_book 121 = .ok (.isub, 1) := by decide +kernel
theorem dX5_book_122 : decode cX5_book 122 = .ok (.imul, 1) := by decide +kernel
theorem dX5_book_123 : decode cX5_book 123 = .ok (.i2l, 1) := by decide +kernel
theorem dX5_book_124 : decode cX5_book 124 = .ok (.ladd, 1) := by decide +kernel
theorem dX5_book_125 : decode cX5_book 125 = .ok (.putfield 136, 3) := by decide +kernel
theorem dX5_book_128 : decode cX5_book 128 = .ok (.iinc 4 1, 3) := by decide +kernel
theorem dX5_book_131 : decode cX5_book 131 = .ok (.goto (-122), 3) := by decide +kernel
theorem dX5_book_134 : decode cX5_book 134 = .ok (.return_, 1) := by decide +kernel
theorem dX5_byOne_0 : decode cX5_byOne 0 = .ok (.iload_n 1, 1) := by decide +kernel
theorem dX5_byOne_1 : decode cX5_byOne 1 = .ok (.istore 5, 2) := by decide +kernel
theorem dX5_byOne_3 : decode cX5_byOne 3 = .ok (.iload 5, 2) := by decide +kernel
theorem dX5_byOne_5 : decode cX5_byOne 5 = .ok (.ifCond .le 62, 3) := by decide +kernel
theorem dX5_byOne_8 : decode cX5_byOne 8 = .ok (.iconst 0, 1) := by decide +kernel
theorem dX5_byOne_9 : decode cX5_byOne 9 = .ok (.istore 6, 2) := by decide +kernel
theorem dX5_byOne_11 : decode cX5_byOne 11 = .ok (.iload 6, 2) := by decide +kernel
theorem dX5_byOne_13 : decode cX5_byOne 13 = .ok (.aload_n 0, 1) := by decide +kernel
theorem dX5_byOne_14 : decode cX5_byOne 14 = .ok (.getfield 39, 3) := by decide +kernel
theorem dX5_byOne_17 : decode cX5_byOne 17 = .ok (.if_icmp .ge 47, 3) := by decide +kernel
theorem dX5_byOne_20 : decode cX5_byOne 20 = .ok (.iload 5, 2) := by decide +kernel
theorem dX5_byOne_22 : decode cX5_byOne 22 = .ok (.ifCond .le 42, 3) := by decide +kernel
theorem dX5_byOne_25 : decode cX5_byOne 25 = .ok (.aload 4, 2) := by decide +kernel
theorem dX5_byOne_27 : decode cX5_byOne 27 = .ok (.iload 6, 2) := by decide +kernel
theorem dX5_byOne_29 : decode cX5_byOne 29 = .ok (.baload, 1) := by decide +kernel
theorem dX5_byOne_30 : decode cX5_byOne 30 = .ok (.ifCond .eq 28, 3) := by decide +kernel
theorem dX5_byOne_33 : decode cX5_byOne 33 = .ok (.aload_n 3, 1) := by decide +kernel
theorem dX5_byOne_34 : decode cX5_byOne 34 = .ok (.iload 6, 2) := by decide +kernel
theorem dX5_byOne_36 : decode cX5_byOne 36 = .ok (.iaload, 1) := by decide +kernel
theorem dX5_byOne_37 : decode cX5_byOne 37 = .ok (.aload_n 2, 1) := by decide +kernel
theorem dX5_byOne_38 : decode cX5_byOne 38 = .ok (.iload 6, 2) := by decide +kernel
theorem dX5_byOne_40 : decode cX5_byOne 40 = .ok (.iaload, 1) := by decide +kernel
theorem dX5_byOne_41 : decode cX5_byOne 41 = .ok (.if_icmp .ne 6, 3) := by decide +kernel
theorem dX5_byOne_44 : decode cX5_byOne 44 = .ok (.goto 14, 3) := by decide +kernel
theorem dX5_byOne_47 : decode cX5_byOne 47 = .ok (.aload_n 3, 1) := by decide +kernel
theorem dX5_byOne_48 : decode cX5_byOne 48 = .ok (.iload 6, 2) := by decide +kernel
theorem dX5_byOne_50 : decode cX5_byOne 50 = .ok (.dup2, 1) := by decide +kernel
theorem dX5_byOne_51 : decode cX5_byOne 51 = .ok (.iaload, 1) := by decide +kernel
theorem dX5_byOne_52 : decode cX5_byOne 52 = .ok (.iconst 1, 1) := by decide +kernel
theorem dX5_byOne_53 : decode cX5_byOne 53 = .ok (.iadd, 1) := by decide +kernel
theorem dX5_byOne_54 : decode cX5_byOne 54 = .ok (.iastore, 1) := by decide +kernel
theorem dX5_byOne_55 : decode cX5_byOne 55 = .ok (.iinc 5 (-1), 3) := by decide +kernel
theorem dX5_byOne_58 : decode cX5_byOne 58 = .ok (.iinc 6 1, 3) := by decide +kernel
theorem dX5_byOne_61 : decode cX5_byOne 61 = .ok (.goto (-50), 3) := by decide +kernel
theorem dX5_byOne_64 : decode cX5_byOne 64 = .ok (.goto (-61), 3) := by decide +kernel
theorem dX5_byOne_67 : decode cX5_byOne 67 = .ok (.return_, 1) := by decide +kernel
theorem dX5_byRank_0 : decode cX5_byRank 0 = .ok (.iload_n 1, 1) := by decide +kernel
theorem dX5_byRank_1 : decode cX5_byRank 1 = .ok (.istore 5, 2) := by decide +kernel
theorem dX5_byRank_3 : decode cX5_byRank 3 = .ok (.iconst 0, 1) := by decide +kernel
theorem dX5_byRank_4 : decode cX5_byRank 4 = .ok (.istore 6, 2) := by decide +kernel
theorem dX5_byRank_6 : decode cX5_byRank 6 = .ok (.iload 6, 2) := by decide +kernel
theorem dX5_byRank_8 : decode cX5_byRank 8 = .ok (.bipush 100, 2) := by decide +kernel
theorem dX5_byRank_10 : decode cX5_byRank 10 = .ok (.if_icmp .ge 65, 3) := by decide +kernel
theorem dX5_byRank_13 : decode cX5_byRank 13 = .ok (.iconst 0, 1) := by decide +kernel
theorem dX5_byRank_14 : decode cX5_byRank 14 = .ok (.istore 7, 2) := by decide +kernel
theorem dX5_byRank_16 : decode cX5_byRank 16 = .ok (.iload 7, 2) := by decide +kernel
theorem dX5_byRank_18 : decode cX5_byRank 18 = .ok (.aload_n 0, 1) := by decide +kernel
theorem dX5_byRank_19 : decode cX5_byRank 19 = .ok (.getfield 39, 3) := by decide +kernel
theorem dX5_byRank_22 : decode cX5_byRank 22 = .ok (.if_icmp .ge 47, 3) := by decide +kernel
theorem dX5_byRank_25 : decode cX5_byRank 25 = .ok (.aload 4, 2) := by decide +kernel
theorem dX5_byRank_27 : decode cX5_byRank 27 = .ok (.bipush 13, 2) := by decide +kernel
theorem dX5_byRank_29 : decode cX5_byRank 29 = .ok (.iload 7, 2) := by decide +kernel
theorem dX5_byRank_31 : decode cX5_byRank 31 = .ok (.iadd, 1) := by decide +kernel
theorem dX5_byRank_32 : decode cX5_byRank 32 = .ok (.iaload, 1) := by decide +kernel
theorem dX5_byRank_33 : decode cX5_byRank 33 = .ok (.iload 6, 2) := by decide +kernel
theorem dX5_byRank_35 : decode cX5_byRank 35 = .ok (.if_icmp .eq 6, 3) := by decide +kernel
theorem dX5_byRank_38 : decode cX5_byRank 38 = .ok (.goto 25, 3) := by decide +kernel
theorem dX5_byRank_41 : decode cX5_byRank 41 = .ok (.aload_n 3, 1) := by decide +kernel
theorem dX5_byRank_42 : decode cX5_byRank 42 = .ok (.iload 7, 2) := by decide +kernel
theorem dX5_byRank_44 : decode cX5_byRank 44 = .ok (.iload 5, 2) := by decide +kernel
theorem dX5_byRank_46 : decode cX5_byRank 46 = .ok (.aload_n 2, 1) := by decide +kernel
theorem dX5_byRank_47 : decode cX5_byRank 47 = .ok (.iload 7, 2) := by decide +kernel
theorem dX5_byRank_49 : decode cX5_byRank 49 = .ok (.iaload, 1) := by decide +kernel
theorem dX5_byRank_50 : decode cX5_byRank 50 = .ok (.invokestatic 86, 3) := by decide +kernel
theorem dX5_byRank_53 : decode cX5_byRank 53 = .ok (.iastore, 1) := by decide +kernel
theorem dX5_byRank_54 : decode cX5_byRank 54 = .ok (.iload 5, 2) := by decide +kernel
theorem dX5_byRank_56 : decode cX5_byRank 56 = .ok (.aload_n 3, 1) := by decide +kernel
theorem dX5_byRank_57 : decode cX5_byRank 57 = .ok (.iload 7, 2) := by decide +kernel
theorem dX5_byRank_59 : decode cX5_byRank 59 = .ok (.iaload, 1) := by decide +kernel
theorem dX5_byRank_60 : decode cX5_byRank 60 = .ok (.isub, 1) := by decide +kernel
theorem dX5_byRank_61 : decode cX5_byRank 61 = .ok (.istore 5, 2) := by decide +kernel
theorem dX5_byRank_63 : decode cX5_byRank 63 = .ok (.iinc 7 1, 3) := by decide +kernel
theorem dX5_byRank_66 : decode cX5_byRank 66 = .ok (.goto (-50), 3) := by decide +kernel
theorem dX5_byRank_69 : decode cX5_byRank 69 = .ok (.iinc 6 1, 3) := by decide +kernel
theorem dX5_byRank_72 : decode cX5_byRank 72 = .ok (.goto (-66), 3) := by decide +kernel
theorem dX5_byRank_75 : decode cX5_byRank 75 = .ok (.return_, 1) := by decide +kernel
theorem dX5_byRoom_0 : decode cX5_byRoom 0 = .ok (.iconst 0, 1) := by decide +kernel
theorem dX5_byRoom_1 : decode cX5_byRoom 1 = .ok (.istore 4, 2) := by decide +kernel
theorem dX5_byRoom_3 : decode cX5_byRoom 3 = .ok (.iconst 0, 1) := by decide +kernel
theorem dX5_byRoom_4 : decode cX5_byRoom 4 = .ok (.istore 5, 2) := by decide +kernel
theorem dX5_byRoom_6 : decode cX5_byRoom 6 = .ok (.iload 5, 2) := by decide +kernel
theorem dX5_byRoom_8 : decode cX5_byRoom 8 = .ok (.aload_n 0, 1) := by decide +kernel
theorem dX5_byRoom_9 : decode cX5_byRoom 9 = .ok (.getfield 39, 3) := by decide +kernel
theorem dX5_byRoom_12 : decode cX5_byRoom 12 = .ok (.if_icmp .ge 18, 3) := by decide +kernel
theorem dX5_byRoom_15 : decode cX5_byRoom 15 = .ok (.iload 4, 2) := by decide +kernel
theorem dX5_byRoom_17 : decode cX5_byRoom 17 = .ok (.aload_n 2, 1) := by decide +kernel
theorem dX5_byRoom_18 : decode cX5_byRoom 18 = .ok (.iload 5, 2) := by decide +kernel
theorem dX5_byRoom_20 : decode cX5_byRoom 20 = .ok (.iaload, 1) := by decide +kernel
theorem dX5_byRoom_21 : decode cX5_byRoom 21 = .ok (.iadd, 1) := by decide +kernel
theorem dX5_byRoom_22 : decode cX5_byRoom 22 = .ok (.istore 4, 2) := by decide +kernel
theorem dX5_byRoom_24 : decode cX5_byRoom 24 = .ok (.iinc 5 1, 3) := by decide +kernel
theorem dX5_byRoom_27 : decode cX5_byRoom 27 = .ok (.goto (-21), 3) := by decide +kernel
theorem dX5_byRoom_30 : decode cX5_byRoom 30 = .ok (.iload_n 1, 1) := by decide +kernel
theorem dX5_byRoom_31 : decode cX5_byRoom 31 = .ok (.istore 5, 2) := by decide +kernel
theorem dX5_byRoom_33 : decode cX5_byRoom 33 = .ok (.iconst 0, 1) := by decide +kernel
theorem dX5_byRoom_34 : decode cX5_byRoom 34 = .ok (.istore 6, 2) := by decide +kernel
theorem dX5_byRoom_36 : decode cX5_byRoom 36 = .ok (.iload 6, 2) := by decide +kernel
theorem dX5_byRoom_38 : decode cX5_byRoom 38 = .ok (.aload_n 0, 1) := by decide +kernel
theorem dX5_byRoom_39 : decode cX5_byRoom 39 = .ok (.getfield 39, 3) := by decide +kernel
theorem dX5_byRoom_42 : decode cX5_byRoom 42 = .ok (.if_icmp .ge 36, 3) := by decide +kernel
theorem dX5_byRoom_45 : decode cX5_byRoom 45 = .ok (.iload 4, 2) := by decide +kernel
theorem dX5_byRoom_47 : decode cX5_byRoom 47 = .ok (.ifCond .le 31, 3) := by decide +kernel
theorem dX5_byRoom_50 : decode cX5_byRoom 50 = .ok (.aload_n 3, 1) := by decide +kernel
theorem dX5_byRoom_51 : decode cX5_byRoom 51 = .ok (.iload 6, 2) := by decide +kernel
theorem dX5_byRoom_53 : decode cX5_byRoom 53 = .ok (.iload_n 1, 1) := by decide +kernel
theorem dX5_byRoom_54 : decode cX5_byRoom 54 = .ok (.aload_n 2, 1) := by decide +kernel
theorem dX5_byRoom_55 : decode cX5_byRoom 55 = .ok (.iload 6, 2) := by decide +kernel
theorem dX5_byRoom_57 : decode cX5_byRoom 57 = .ok (.iaload, 1) := by decide +kernel
theorem dX5_byRoom_58 : decode cX5_byRoom 58 = .ok (.imul, 1) := by decide +kernel
theorem dX5_byRoom_59 : decode cX5_byRoom 59 = .ok (.iload 4, 2) := by decide +kernel
theorem dX5_byRoom_61 : decode cX5_byRoom 61 = .ok (.idiv, 1) := by decide +kernel
theorem dX5_byRoom_62 : decode cX5_byRoom 62 = .ok (.iastore, 1) := by decide +kernel
theorem dX5_byRoom_63 : decode cX5_byRoom 63 = .ok (.iload 5, 2) := by decide +kernel
theorem dX5_byRoom_65 : decode cX5_byRoom 65 = .ok (.aload_n 3, 1) := by decide +kernel
theorem dX5_byRoom_66 : decode cX5_byRoom 66 = .ok (.iload 6, 2) := by decide +kernel
theorem dX5_byRoom_68 : decode cX5_byRoom 68 = .ok (.iaload, 1) := by decide +kernel
theorem dX5_byRoom_69 : decode cX5_byRoom 69 = .ok (.isub, 1) := by decide +kernel
theorem dX5_byRoom_70 : decode cX5_byRoom 70 = .ok (.istore 5, 2) := by decide +kernel
theorem dX5_byRoom_72 : decode cX5_byRoom 72 = .ok (.iinc 6 1, 3) := by decide +kernel
theorem dX5_byRoom_75 : decode cX5_byRoom 75 = .ok (.goto (-39), 3) := by decide +kernel
theorem dX5_byRoom_78 : decode cX5_byRoom 78 = .ok (.bipush 6, 2) := by decide +kernel
theorem dX5_byRoom_80 : decode cX5_byRoom 80 = .ok (.newarray .boolean, 2) := by decide +kernel
theorem dX5_byRoom_82 : decode cX5_byRoom 82 = .ok (.dup, 1) := by decide +kernel
theorem dX5_byRoom_83 : decode cX5_byRoom 83 = .ok (.iconst 0, 1) := by decide +kernel
theorem dX5_byRoom_84 : decode cX5_byRoom 84 = .ok (.iconst 1, 1) := by decide +kernel
theorem dX5_byRoom_85 : decode cX5_byRoom 85 = .ok (.bastore, 1) := by decide +kernel
theorem dX5_byRoom_86 : decode cX5_byRoom 86 = .ok (.dup, 1) := by decide +kernel
theorem dX5_byRoom_87 : decode cX5_byRoom 87 = .ok (.iconst 1, 1) := by decide +kernel
theorem dX5_byRoom_88 : decode cX5_byRoom 88 = .ok (.iconst 1, 1) := by decide +kernel
theorem dX5_byRoom_89 : decode cX5_byRoom 89 = .ok (.bastore, 1) := by decide +kernel
theorem dX5_byRoom_90 : decode cX5_byRoom 90 = .ok (.dup, 1) := by decide +kernel
theorem dX5_byRoom_91 : decode cX5_byRoom 91 = .ok (.iconst 2, 1) := by decide +kernel
theorem dX5_byRoom_92 : decode cX5_byRoom 92 = .ok (.iconst 1, 1) := by decide +kernel
theorem dX5_byRoom_93 : decode cX5_byRoom 93 = .ok (.bastore, 1) := by decide +kernel
theorem dX5_byRoom_94 : decode cX5_byRoom 94 = .ok (.dup, 1) := by decide +kernel
theorem dX5_byRoom_95 : decode cX5_byRoom 95 = .ok (.iconst 3, 1) := by decide +kernel
theorem dX5_byRoom_96 : decode cX5_byRoom 96 = .ok (.iconst 1, 1) := by decide +kernel
theorem dX5_byRoom_97 : decode cX5_byRoom 97 = .ok (.bastore, 1) := by decide +kernel
theorem dX5_byRoom_98 : decode cX5_byRoom 98 = .ok (.dup, 1) := by decide +kernel
theorem dX5_byRoom_99 : decode cX5_byRoom 99 = .ok (.iconst 4, 1) := by decide +kernel
theorem dX5_byRoom_100 : decode cX5_byRoom 100 = .ok (.iconst 1, 1) := by decide +kernel
theorem dX5_byRoom_101 : decode cX5_byRoom 101 = .ok (.bastore, 1) := by decide +kernel
theorem dX5_byRoom_102 : decode cX5_byRoom 102 = .ok (.dup, 1) := by decide +kernel
theorem dX5_byRoom_103 : decode cX5_byRoom 103 = .ok (.iconst 5, 1) := by decide +kernel
theorem dX5_byRoom_104 : decode cX5_byRoom 104 = .ok (.iconst 1, 1) := by decide +kernel
theorem dX5_byRoom_105 : decode cX5_byRoom 105 = .ok (.bastore, 1) := by decide +kernel
theorem dX5_byRoom_106 : decode cX5_byRoom 106 = .ok (.astore 6, 2) := by decide +kernel
theorem dX5_byRoom_108 : decode cX5_byRoom 108 = .ok (.aload_n 0, 1) := by decide +kernel
theorem dX5_byRoom_109 : decode cX5_byRoom 109 = .ok (.iload 5, 2) := by decide +kernel
theorem dX5_byRoom_111 : decode cX5_byRoom 111 = .ok (.aload_n 2, 1) := by decide +kernel
theorem dX5_byRoom_112 : decode cX5_byRoom 112 = .ok (.aload_n 3, 1) := by decide +kernel
theorem dX5_byRoom_113 : decode cX5_byRoom 113 = .ok (.aload 6, 2) := by decide +kernel
theorem dX5_byRoom_115 : decode cX5_byRoom 115 = .ok (.invokevirtual 82, 3) := by decide +kernel
theorem dX5_byRoom_118 : decode cX5_byRoom 118 = .ok (.return_, 1) := by decide +kernel
theorem dX5_byShares_0 : decode cX5_byShares 0 = .ok (.iload_n 1, 1) := by decide +kernel
theorem dX5_byShares_1 : decode cX5_byShares 1 = .ok (.istore 5, 2) := by decide +kernel
theorem dX5_byShares_3 : decode cX5_byShares 3 = .ok (.iload 5, 2) := by decide +kernel
theorem dX5_byShares_5 : decode cX5_byShares 5 = .ok (.ifCond .le 215, 3) := by decide +kernel
theorem dX5_byShares_8 : decode cX5_byShares 8 = .ok (.aload_n 0, 1) := by decide +kernel
theorem dX5_byShares_9 : decode cX5_byShares 9 = .ok (.aload_n 2, 1) := by decide +kernel
theorem dX5_byShares_10 : decode cX5_byShares 10 = .ok (.aload_n 3, 1) := by decide +kernel
theorem dX5_byShares_11 : decode cX5_byShares 11 = .ok (.aload 4, 2) := by decide +kernel
theorem dX5_byShares_13 : decode cX5_byShares 13 = .ok (.iconst 1, 1) := by decide +kernel
theorem dX5_byShares_14 : decode cX5_byShares 14 = .ok (.invokevirtual 78, 3) := by decide +kernel
theorem dX5_byShares_17 : decode cX5_byShares 17 = .ok (.astore 6, 2) := by decide +kernel
theorem dX5_byShares_19 : decode cX5_byShares 19 = .ok (.iconst 0, 1) := by decide +kernel
theorem dX5_byShares_20 : decode cX5_byShares 20 = .ok (.istore 7, 2) := by decide +kernel
theorem dX5_byShares_22 : decode cX5_byShares 22 = .ok (.iconst 0, 1) := by decide +kernel
theorem dX5_byShares_23 : decode cX5_byShares 23 = .ok (.istore 8, 2) := by decide +kernel
theorem dX5_byShares_25 : decode cX5_byShares 25 = .ok (.iload 8, 2) := by decide +kernel
theorem dX5_byShares_27 : decode cX5_byShares 27 = .ok (.aload_n 0, 1) := by decide +kernel
theorem dX5_byShares_28 : decode cX5_byShares 28 = .ok (.getfield 39, 3) := by decide +kernel
theorem dX5_byShares_31 : decode cX5_byShares 31 = .ok (.if_icmp .ge 34, 3) := by decide +kernel
theorem dX5_byShares_34 : decode cX5_byShares 34 = .ok (.iload 7, 2) := by decide +kernel
theorem dX5_byShares_36 : decode cX5_byShares 36 = .ok (.aload 6, 2) := by decide +kernel
theorem dX5_byShares_38 : decode cX5_byShares 38 = .ok (.iload 8, 2) := by decide +kernel
theorem dX5_byShares_40 : decode cX5_byShares 40 = .ok (.baload, 1) := by decide +kernel
theorem dX5_byShares_41 : decode cX5_byShares 41 = .ok (.ifCond .eq 14, 3) := by decide +kernel
theorem dX5_byShares_44 : decode cX5_byShares 44 = .ok (.aload 4, 2) := by decide +kernel
theorem dX5_byShares_46 : decode cX5_byShares 46 = .ok (.bipush 7, 2) := by decide +kernel
theorem dX5_byShares_48 : decode cX5_byShares 48 = .ok (.iload 8, 2) := by decide +kernel
theorem dX5_byShares_50 : decode cX5_byShares 50 = .ok (.iadd, 1) := by decide +kernel
theorem dX5_byShares_51 : decode cX5_byShares 51 = .ok (.iaload, 1) := by decide +kernel
theorem dX5_byShares_52 : decode cX5_byShares 52 = .ok (.goto 4, 3) := by decide +kernel
theorem dX5_byShares_55 : decode cX5_byShares 55 = .ok (.iconst 0, 1) := by decide +kernel
theorem dX5_byShares_56 : decode cX5_byShares 56 = .ok (.iadd, 1) := by decide +kernel
theorem dX5_byShares_57 : decode cX5_byShares 57 = .ok (.istore 7, 2) := by decide +kernel
theorem dX5_byShares_59 : decode cX5_byShares 59 = .ok (.iinc 8 1, 3) := by decide +kernel
theorem dX5_byShares_62 : decode cX5_byShares 62 = .ok (.goto (-37), 3) := by decide +kernel
theorem dX5_byShares_65 : decode cX5_byShares 65 = .ok (.iload 7, 2) := by decide +kernel
theorem dX5_byShares_67 : decode cX5_byShares 67 = .ok (.ifCond .ne 18, 3) := by decide +kernel
theorem dX5_byShares_70 : decode cX5_byShares 70 = .ok (.aload_n 0, 1) := by decide +kernel
theorem dX5_byShares_71 : decode cX5_byShares 71 = .ok (.iload 5, 2) := by decide +kernel
theorem dX5_byShares_73 : decode cX5_byShares 73 = .ok (.aload_n 2, 1) := by decide +kernel
theorem dX5_byShares_74 : decode cX5_byShares 74 = .ok (.aload_n 3, 1) := by decide +kernel
theorem dX5_byShares_75 : decode cX5_byShares 75 = .ok (.aload 4, 2) := by decide +kernel
theorem dX5_byShares_77 : decode cX5_byShares 77 = .ok (.invokevirtual 89, 3) := by decide +kernel
theorem dX5_byShares_80 : decode cX5_byShares 80 = .ok (.istore 5, 2) := by decide +kernel
theorem dX5_byShares_82 : decode cX5_byShares 82 = .ok (.goto (-79), 3) := by decide +kernel
theorem dX5_byShares_85 : decode cX5_byShares 85 = .ok (.iload 5, 2) := by decide +kernel
theorem dX5_byShares_87 : decode cX5_byShares 87 = .ok (.istore 8, 2) := by decide +kernel
theorem dX5_byShares_89 : decode cX5_byShares 89 = .ok (.iconst 0, 1) := by decide +kernel
theorem dX5_byShares_90 : decode cX5_byShares 90 = .ok (.istore 9, 2) := by decide +kernel
theorem dX5_byShares_92 : decode cX5_byShares 92 = .ok (.iload 9, 2) := by decide +kernel
theorem dX5_byShares_94 : decode cX5_byShares 94 = .ok (.aload_n 0, 1) := by decide +kernel
theorem dX5_byShares_95 : decode cX5_byShares 95 = .ok (.getfield 39, 3) := by decide +kernel
theorem dX5_byShares_98 : decode cX5_byShares 98 = .ok (.if_icmp .ge 64, 3) := by decide +kernel
theorem dX5_byShares_101 : decode cX5_byShares 101 = .ok (.aload 6, 2) := by decide +kernel
theorem dX5_byShares_103 : decode cX5_byShares 103 = .ok (.iload 9, 2) := by decide +kernel
theorem dX5_byShares_105 : decode cX5_byShares 105 = .ok (.baload, 1) := by decide +kernel
theorem dX5_byShares_106 : decode cX5_byShares 106 = .ok (.ifCond .ne 6, 3) := by decide +kernel
theorem dX5_byShares_109 : decode cX5_byShares 109 = .ok (.goto 47, 3) := by decide +kernel
theorem dX5_byShares_112 : decode cX5_byShares 112 = .ok (.iload 8, 2) := by decide +kernel
theorem dX5_byShares_114 : decode cX5_byShares 114 = .ok (.aload 4, 2) := by decide +kernel
theorem dX5_byShares_116 : decode cX5_byShares 116 = .ok (.bipush 7, 2) := by decide +kernel
theorem dX5_byShares_118 : decode cX5_byShares 118 = .ok (.iload 9, 2) := by decide +kernel
theorem dX5_byShares_120 : decode cX5_byShares 120 = .ok (.iadd, 1) := by decide +kernel
theorem dX5_byShares_121 : decode cX5_byShares 121 = .ok (.iaload, 1) := by decide +kernel
theorem dX5_byShares_122 : decode cX5_byShares 122 = .ok (.imul, 1) := by decide +kernel
theorem dX5_byShares_123 : decode cX5_byShares 123 = .ok (.iload 7, 2) := by decide +kernel
theorem dX5_byShares_125 : decode cX5_byShares 125 = .ok (.idiv, 1) := by decide +kernel
theorem dX5_byShares_126 : decode cX5_byShares 126 = .ok (.aload_n 2, 1) := by decide +kernel
theorem dX5_byShares_127 : decode cX5_byShares 127 = .ok (.iload 9, 2) := by decide +kernel
theorem dX5_byShares_129 : decode cX5_byShares 129 = .ok (.iaload, 1) := by decide +kernel
theorem dX5_byShares_130 : decode cX5_byShares 130 = .ok (.aload_n 3, 1) := by decide +kernel
theorem dX5_byShares_131 : decode cX5_byShares 131 = .ok (.iload 9, 2) := by decide +kernel
theorem dX5_byShares_133 : decode cX5_byShares 133 = .ok (.iaload, 1) := by decide +kernel
theorem dX5_byShares_134 : decode cX5_byShares 134 = .ok (.isub, 1) := by decide +kernel
theorem dX5_byShares_135 : decode cX5_byShares 135 = .ok (.invokestatic 86, 3) := by decide +kernel
theorem dX5_byShares_138 : decode cX5_byShares 138 = .ok (.istore 10, 2) := by decide +kernel
theorem dX5_byShares_140 : decode cX5_byShares 140 = .ok (.aload_n 3, 1) := by decide +kernel
theorem dX5_byShares_141 : decode cX5_byShares 141 = .ok (.iload 9, 2) := by decide +kernel
theorem dX5_byShares_143 : decode cX5_byShares 143 = .ok (.dup2, 1) := by decide +kernel
theorem dX5_byShares_144 : decode cX5_byShares 144 = .ok (.iaload, 1) := by decide +kernel
theorem dX5_byShares_145 : decode cX5_byShares 145 = .ok (.iload 10, 2) := by decide +kernel
theorem dX5_byShares_147 : decode cX5_byShares 147 = .ok (.iadd, 1) := by decide +kernel
theorem dX5_byShares_148 : decode cX5_byShares 148 = .ok (.iastore, 1) := by decide +kernel
theorem dX5_byShares_149 : decode cX5_byShares 149 = .ok (.iload 5, 2) := by decide +kernel
theorem dX5_byShares_151 : decode cX5_byShares 151 = .ok (.iload 10, 2) := by decide +kernel
theorem dX5_byShares_153 : decode cX5_byShares 153 = .ok (.isub, 1) := by decide +kernel
theorem dX5_byShares_154 : decode cX5_byShares 154 = .ok (.istore 5, 2) := by decide +kernel
theorem dX5_byShares_156 : decode cX5_byShares 156 = .ok (.iinc 9 1, 3) := by decide +kernel
theorem dX5_byShares_159 : decode cX5_byShares 159 = .ok (.goto (-67), 3) := by decide +kernel
theorem dX5_byShares_162 : decode cX5_byShares 162 = .ok (.iload 5, 2) := by decide +kernel
theorem dX5_byShares_164 : decode cX5_byShares 164 = .ok (.iload 8, 2) := by decide +kernel
theorem dX5_byShares_166 : decode cX5_byShares 166 = .ok (.if_icmp .ge 6, 3) := by decide +kernel
theorem dX5_byShares_169 : decode cX5_byShares 169 = .ok (.goto (-166), 3) := by decide +kernel
theorem dX5_byShares_172 : decode cX5_byShares 172 = .ok (.iconst 0, 1) := by decide +kernel
theorem dX5_byShares_173 : decode cX5_byShares 173 = .ok (.istore 9, 2) := by decide +kernel
theorem dX5_byShares_175 : decode cX5_byShares 175 = .ok (.iload 9, 2) := by decide +kernel
theorem dX5_byShares_177 : decode cX5_byShares 177 = .ok (.aload_n 0, 1) := by decide +kernel
theorem dX5_byShares_178 : decode cX5_byShares 178 = .ok (.getfield 39, 3) := by decide +kernel
theorem dX5_byShares_181 : decode cX5_byShares 181 = .ok (.if_icmp .ge 36, 3) := by decide +kernel
theorem dX5_byShares_184 : decode cX5_byShares 184 = .ok (.iload 5, 2) := by decide +kernel
theorem dX5_byShares_186 : decode cX5_byShares 186 = .ok (.ifCond .le 31, 3) := by decide +kernel
theorem dX5_byShares_189 : decode cX5_byShares 189 = .ok (.aload 6, 2) := by decide +kernel
theorem dX5_byShares_191 : decode cX5_byShares 191 = .ok (.iload 9, 2) := by decide +kernel
theorem dX5_byShares_193 : decode cX5_byShares 193 = .ok (.baload, 1) := by decide +kernel
theorem dX5_byShares_194 : decode cX5_byShares 194 = .ok (.ifCond .ne 6, 3) := by decide +kernel
theorem dX5_byShares_197 : decode cX5_byShares 197 = .ok (.goto 14, 3) := by decide +kernel
theorem dX5_byShares_200 : decode cX5_byShares 200 = .ok (.aload_n 3, 1) := by decide +kernel
theorem dX5_byShares_201 : decode cX5_byShares 201 = .ok (.iload 9, 2) := by decide +kernel
theorem dX5_byShares_203 : decode cX5_byShares 203 = .ok (.dup2, 1) := by decide +kernel
theorem dX5_byShares_204 : decode cX5_byShares 204 = .ok (.iaload, 1) := by decide +kernel
theorem dX5_byShares_205 : decode cX5_byShares 205 = .ok (.iconst 1, 1) := by decide +kernel
theorem dX5_byShares_206 : decode cX5_byShares 206 = .ok (.iadd, 1) := by decide +kernel
theorem dX5_byShares_207 : decode cX5_byShares 207 = .ok (.iastore, 1) := by decide +kernel
theorem dX5_byShares_208 : decode cX5_byShares 208 = .ok (.iinc 5 (-1), 3) := by decide +kernel
theorem dX5_byShares_211 : decode cX5_byShares 211 = .ok (.iinc 9 1, 3) := by decide +kernel
theorem dX5_byShares_214 : decode cX5_byShares 214 = .ok (.goto (-39), 3) := by decide +kernel
theorem dX5_byShares_217 : decode cX5_byShares 217 = .ok (.goto (-214), 3) := by decide +kernel
theorem dX5_byShares_220 : decode cX5_byShares 220 = .ok (.return_, 1) := by decide +kernel
theorem dX5_close_0 : decode cX5_close 0 = .ok (.bipush 6, 2) := by decide +kernel
theorem dX5_close_2 : decode cX5_close 2 = .ok (.newarray .int, 2) := by decide +kernel
theorem dX5_close_4 : decode cX5_close 4 = .ok (.astore 5, 2) := by decide +kernel
theorem dX5_close_6 : decode cX5_close 6 = .ok (.bipush 6, 2) := by decide +kernel
theorem dX5_close_8 : decode cX5_close 8 = .ok (.newarray .int, 2) := by decide +kernel
theorem dX5_close_10 : decode cX5_close 10 = .ok (.astore 6, 2) := by decide +kernel
theorem dX5_close_12 : decode cX5_close 12 = .ok (.iconst 0, 1) := by decide +kernel
theorem dX5_close_13 : decode cX5_close 13 = .ok (.istore 7, 2) := by decide +kernel
theorem dX5_close_15 : decode cX5_close 15 = .ok (.iload 7, 2) := by decide +kernel
theorem dX5_close_17 : decode cX5_close 17 = .ok (.aload_n 0, 1) := by decide +kernel
theorem dX5_close_18 : decode cX5_close 18 = .ok (.getfield 39, 3) := by decide +kernel
theorem dX5_close_21 : decode cX5_close 21 = .ok (.if_icmp .ge 88, 3) := by decide +kernel
theorem dX5_close_24 : decode cX5_close 24 = .ok (.aload_n 0, 1) := by decide +kernel
theorem dX5_close_25 : decode cX5_close 25 = .ok (.getfield 16, 3) := by decide +kernel
theorem dX5_close_28 : decode cX5_close 28 = .ok (.bipush 48, 2) := by decide +kernel
theorem dX5_close_30 : decode cX5_close 30 = .ok (.iload 7, 2) := by decide +kernel
theorem dX5_close_32 : decode cX5_close 32 = .ok (.imul, 1) := by decide +kernel
theorem dX5_close_33 : decode cX5_close 33 = .ok (.iload_n 1, 1) := by decide +kernel
theorem dX5_close_34 : decode cX5_close 34 = .ok (.iadd, 1) := by decide +kernel
theorem dX5_close_35 : decode cX5_close 35 = .ok (.iaload, 1) := by decide +kernel
theorem dX5_close_36 : decode cX5_close 36 = .ok (.aload_n 0, 1) := by decide +kernel
theorem dX5_close_37 : decode cX5_close 37 = .ok (.getfield 19, 3) := by decide +kernel
theorem dX5_close_40 : decode cX5_close 40 = .ok (.bipush 48, 2) := by decide +kernel
theorem dX5_close_42 : decode cX5_close 42 = .ok (.iload 7, 2) := by decide +kernel
theorem dX5_close_44 : decode cX5_close 44 = .ok (.imul, 1) := by decide +kernel
theorem dX5_close_45 : decode cX5_close 45 = .ok (.iload_n 1, 1) := by decide +kernel
theorem dX5_close_46 : decode cX5_close 46 = .ok (.iadd, 1) := by decide +kernel
theorem dX5_close_47 : decode cX5_close 47 = .ok (.iaload, 1) := by decide +kernel
theorem dX5_close_48 : decode cX5_close 48 = .ok (.invokestatic 86, 3) := by decide +kernel
theorem dX5_close_51 : decode cX5_close 51 = .ok (.istore 8, 2) := by decide +kernel
theorem dX5_close_53 : decode cX5_close 53 = .ok (.aload 4, 2) := by decide +kernel
theorem dX5_close_55 : decode cX5_close 55 = .ok (.bipush 8, 2) := by decide +kernel
theorem dX5_close_57 : decode cX5_close 57 = .ok (.iload 7, 2) := by decide +kernel
theorem dX5_close_59 : decode cX5_close 59 = .ok (.imul, 1) := by decide +kernel
theorem dX5_close_60 : decode cX5_close 60 = .ok (.iload 8, 2) := by decide +kernel
theorem dX5_close_62 : decode cX5_close 62 = .ok (.iastore, 1) := by decide +kernel
theorem dX5_close_63 : decode cX5_close 63 = .ok (.aload 5, 2) := by decide +kernel
theorem dX5_close_65 : decode cX5_close 65 = .ok (.iload 7, 2) := by decide +kernel
theorem dX5_close_67 : decode cX5_close 67 = .ok (.aload_n 0, 1) := by decide +kernel
theorem dX5_close_68 : decode cX5_close 68 = .ok (.getfield 16, 3) := by decide +kernel
theorem dX5_close_71 : decode cX5_close 71 = .ok (.bipush 48, 2) := by decide +kernel
theorem dX5_close_73 : decode cX5_close 73 = .ok (.iload 7, 2) := by decide +kernel
theorem dX5_close_75 : decode cX5_close 75 = .ok (.imul, 1) := by decide +kernel
theorem dX5_close_76 : decode cX5_close 76 = .ok (.iload_n 1, 1) := by decide +kernel
theorem dX5_close_77 : decode cX5_close 77 = .ok (.iadd, 1) := by decide +kernel
theorem dX5_close_78 : decode cX5_close 78 = .ok (.iaload, 1) := by decide +kernel
theorem dX5_close_79 : decode cX5_close 79 = .ok (.iload 8, 2) := by decide +kernel
theorem dX5_close_81 : decode cX5_close 81 = .ok (.isub, 1) := by decide +kernel
theorem dX5_close_82 : decode cX5_close 82 = .ok (.iastore, 1) := by decide +kernel
theorem dX5_close_83 : decode cX5_close 83 = .ok (.aload 6, 2) := by decide +kernel
theorem dX5_close_85 : decode cX5_close 85 = .ok (.iload 7, 2) := by decide +kernel
theorem dX5_close_87 : decode cX5_close 87 = .ok (.aload_n 0, 1) := by decide +kernel
theorem dX5_close_88 : decode cX5_close 88 = .ok (.getfield 19, 3) := by decide +kernel
theorem dX5_close_91 : decode cX5_close 91 = .ok (.bipush 48, 2) := by decide +kernel
theorem dX5_close_93 : decode cX5_close 93 = .ok (.iload 7, 2) := by decide +kernel
theorem dX5_close_95 : decode cX5_close 95 = .ok (.imul, 1) := by decide +kernel
theorem dX5_close_96 : decode cX5_close 96 = .ok (.iload_n 1, 1) := by decide +kernel
theorem dX5_close_97 : decode cX5_close 97 = .ok (.iadd, 1) := by decide +kernel
theorem dX5_close_98 : decode cX5_close 98 = .ok (.iaload, 1) := by decide +kernel
theorem dX5_close_99 : decode cX5_close 99 = .ok (.iload 8, 2) := by decide +kernel
theorem dX5_close_101 : decode cX5_close 101 = .ok (.isub, 1) := by decide +kernel
theorem dX5_close_102 : decode cX5_close 102 = .ok (.iastore, 1) := by decide +kernel
theorem dX5_close_103 : decode cX5_close 103 = .ok (.iinc 7 1, 3) := by decide +kernel
theorem dX5_close_106 : decode cX5_close 106 = .ok (.goto (-91), 3) := by decide +kernel
theorem dX5_close_109 : decode cX5_close 109 = .ok (.aload_n 0, 1) := by decide +kernel
theorem dX5_close_110 : decode cX5_close 110 = .ok (.aload 5, 2) := by decide +kernel
theorem dX5_close_112 : decode cX5_close 112 = .ok (.invokestatic 104, 3) := by decide +kernel
theorem dX5_close_115 : decode cX5_close 115 = .ok (.aload 6, 2) := by decide +kernel
theorem dX5_close_117 : decode cX5_close 117 = .ok (.invokestatic 104, 3) := by decide +kernel
theorem dX5_close_120 : decode cX5_close 120 = .ok (.invokestatic 86, 3) := by decide +kernel
theorem dX5_close_123 : decode cX5_close 123 = .ok (.putfield 108, 3) := by decide +kernel
theorem dX5_close_126 : decode cX5_close 126 = .ok (.aload_n 0, 1) := by decide +kernel
theorem dX5_close_127 : decode cX5_close 127 = .ok (.iload_n 2, 1) := by decide +kernel
theorem dX5_close_128 : decode cX5_close 128 = .ok (.putfield 111, 3) := by decide +kernel
theorem dX5_close_131 : decode cX5_close 131 = .ok (.aload_n 0, 1) := by decide +kernel
theorem dX5_close_132 : decode cX5_close 132 = .ok (.aload_n 0, 1) := by decide +kernel
theorem dX5_close_133 : decode cX5_close 133 = .ok (.getfield 108, 3) := by decide +kernel
theorem dX5_close_136 : decode cX5_close 136 = .ok (.aload 6, 2) := by decide +kernel
theorem dX5_close_138 : decode cX5_close 138 = .ok (.aload_n 3, 1) := by decide +kernel
theorem dX5_close_139 : decode cX5_close 139 = .ok (.aload_n 3, 1) := by decide +kernel
theorem dX5_close_140 : decode cX5_close 140 = .ok (.iconst 0, 1) := by decide +kernel
theorem dX5_close_141 : decode cX5_close 141 = .ok (.iaload, 1) := by decide +kernel
theorem dX5_close_142 : decode cX5_close 142 = .ok (.invokevirtual 114, 3) := by decide +kernel
theorem dX5_close_145 : decode cX5_close 145 = .ok (.astore 7, 2) := by decide +kernel
theorem dX5_close_147 : decode cX5_close 147 = .ok (.aload_n 0, 1) := by decide +kernel
theorem dX5_close_148 : decode cX5_close 148 = .ok (.aload_n 0, 1) := by decide +kernel
theorem dX5_close_149 : decode cX5_close 149 = .ok (.getfield 108, 3) := by decide +kernel
theorem dX5_close_152 : decode cX5_close 152 = .ok (.aload 5, 2) := by decide +kernel
theorem dX5_close_154 : decode cX5_close 154 = .ok (.aload_n 3, 1) := by decide +kernel
theorem dX5_close_155 : decode cX5_close 155 = .ok (.iconst 2, 1) := by decide +kernel
theorem dX5_close_156 : decode cX5_close 156 = .ok (.invokevirtual 114, 3) := by decide +kernel
theorem dX5_close_159 : decode cX5_close 159 = .ok (.astore 8, 2) := by decide +kernel
theorem dX5_close_161 : decode cX5_close 161 = .ok (.aload 6, 2) := by decide +kernel
theorem dX5_close_163 : decode cX5_close 163 = .ok (.aload 7, 2) := by decide +kernel
theorem dX5_close_165 : decode cX5_close 165 = .ok (.invokestatic 118, 3) := by decide +kernel
theorem dX5_close_168 : decode cX5_close 168 = .ok (.aload 5, 2) := by decide +kernel
theorem dX5_close_170 : decode cX5_close 170 = .ok (.aload 8, 2) := by decide +kernel
theorem dX5_close_172 : decode cX5_close 172 = .ok (.invokestatic 118, 3) := by decide +kernel
theorem dX5_close_175 : decode cX5_close 175 = .ok (.bipush 6, 2) := by decide +kernel
theorem dX5_close_177 : decode cX5_close 177 = .ok (.newarray .int, 2) := by decide +kernel
theorem dX5_close_179 : decode cX5_close 179 = .ok (.astore 9, 2) := by decide +kernel
theorem dX5_close_181 : decode cX5_close 181 = .ok (.bipush 6, 2) := by decide +kernel
theorem dX5_close_183 : decode cX5_close 183 = .ok (.newarray .int, 2) := by decide +kernel
theorem dX5_close_185 : decode cX5_close 185 = .ok (.astore 10, 2) := by decide +kernel
theorem dX5_close_187 : decode cX5_close 187 = .ok (.aload 5, 2) := by decide +kernel
theorem dX5_close_189 : decode cX5_close 189 = .ok (.invokestatic 104, 3) := by decide +kernel
theorem dX5_close_192 : decode cX5_close 192 = .ok (.ifCond .le 80, 3) := by decide +kernel
theorem dX5_close_195 : decode cX5_close 195 = .ok (.aload_n 3, 1) := by decide +kernel
theorem dX5_close_196 : decode cX5_close 196 = .ok (.iconst 4, 1) := by decide +kernel
theorem dX5_close_197 : decode cX5_close 197 = .ok (.iaload, 1) := by decide +kernel
theorem dX5_close_198 : decode cX5_close 198 = .ok (.iload_n 2, 1) := by decide +kernel
theorem dX5_close_199 : decode cX5_close 199 = .ok (.isub, 1) := by decide +kernel
theorem dX5_close_200 : decode cX5_close 200 = .ok (.bipush 100, 2) := by decide +kernel
theorem dX5_close_202 : decode cX5_close 202 = .ok (.imul, 1) := by decide +kernel
theorem dX5_close_203 : decode cX5_close 203 = .ok (.bipush 99, 2) := by decide +kernel
theorem dX5_close_205 : decode cX5_close 205 = .ok (.iadd, 1) := by decide +kernel
theorem dX5_close_206 : decode cX5_close 206 = .ok (.aload_n 3, 1) := by decide +kernel
theorem dX5_close_207 : decode cX5_close 207 = .ok (.bipush 6, 2) := by decide +kernel
theorem dX5_close_209 : decode cX5_close 209 = .ok (.iaload, 1) := by decide +kernel
theorem dX5_close_210 : decode cX5_close 210 = .ok (.idiv, 1) := by decide +kernel
theorem dX5_close_211 : decode cX5_close 211 = .ok (.istore 11, 2) := by decide +kernel
theorem dX5_close_213 : decode cX5_close 213 = .ok (.aload 5, 2) := by decide +kernel
theorem dX5_close_215 : decode cX5_close 215 = .ok (.invokestatic 104, 3) := by decide +kernel
theorem dX5_close_218 : decode cX5_close 218 = .ok (.aload_n 3, 1) := by decide +kernel
theorem dX5_close_219 : decode cX5_close 219 = .ok (.iconst 5, 1) := by decide +kernel
theorem dX5_close_220 : decode cX5_close 220 = .ok (.iaload, 1) := by decide +kernel
theorem dX5_close_221 : decode cX5_close 221 = .ok (.iload 11, 2) := by decide +kernel
theorem dX5_close_223 : decode cX5_close 223 = .ok (.invokestatic 86, 3) := by decide +kernel
theorem dX5_close_226 : decode cX5_close 226 = .ok (.invokestatic 86, 3) := by decide +kernel
theorem dX5_close_229 : decode cX5_close 229 = .ok (.istore 12, 2) := by decide +kernel
theorem dX5_close_231 : decode cX5_close 231 = .ok (.aload_n 0, 1) := by decide +kernel
theorem dX5_close_232 : decode cX5_close 232 = .ok (.iload 12, 2) := by decide +kernel
theorem dX5_close_234 : decode cX5_close 234 = .ok (.aload 5, 2) := by decide +kernel
theorem dX5_close_236 : decode cX5_close 236 = .ok (.aload_n 3, 1) := by decide +kernel
theorem dX5_close_237 : decode cX5_close 237 = .ok (.iconst 2, 1) := by decide +kernel
theorem dX5_close_238 : decode cX5_close 238 = .ok (.invokevirtual 114, 3) := by decide +kernel
theorem dX5_close_241 : decode cX5_close 241 = .ok (.astore 9, 2) := by decide +kernel
theorem dX5_close_243 : decode cX5_close 243 = .ok (.aload_n 0, 1) := by decide +kernel
theorem dX5_close_244 : decode cX5_close 244 = .ok (.dup, 1) := by decide +kernel
theorem dX5_close_245 : decode cX5_close 245 = .ok (.getfield 111, 3) := by decide +kernel
theorem dX5_close_248 : decode cX5_close 248 = .ok (.iload 12, 2) := by decide +kernel
theorem dX5_close_250 : decode cX5_close 250 = .ok (.aload_n 3, 1) := by decide +kernel
theorem dX5_close_251 : decode cX5_close 251 = .ok (.bipush 6, 2) := by decide +kernel
theorem dX5_close_253 : decode cX5_close 253 = .ok (.iaload, 1) := by decide +kernel
theorem dX5_close_254 : decode cX5_close 254 = .ok (.imul, 1) := by decide +kernel
theorem dX5_close_255 : decode cX5_close 255 = .ok (.bipush 100, 2) := by decide +kernel
theorem dX5_close_257 : decode cX5_close 257 = .ok (.idiv, 1) := by decide +kernel
theorem dX5_close_258 : decode cX5_close 258 = .ok (.iadd, 1) := by decide +kernel
theorem dX5_close_259 : decode cX5_close 259 = .ok (.putfield 111, 3) := by decide +kernel
theorem dX5_close_262 : decode cX5_close 262 = .ok (.aload 5, 2) := by decide +kernel
theorem dX5_close_264 : decode cX5_close 264 = .ok (.aload 9, 2) := by decide +kernel
theorem dX5_close_266 : decode cX5_close 266 = .ok (.invokestatic 118, 3) := by decide +kernel
theorem dX5_close_269 : decode cX5_close 269 = .ok (.goto 60, 3) := by decide +kernel
theorem dX5_close_272 : decode cX5_close 272 = .ok (.aload 6, 2) := by decide +kernel
theorem dX5_close_274 : decode cX5_close 274 = .ok (.invokestatic 104, 3) := by decide +kernel
theorem dX5_close_277 : decode cX5_close 277 = .ok (.ifCond .le 52, 3) := by decide +kernel
theorem dX5_close_280 : decode cX5_close 280 = .ok (.aload 6, 2) := by decide +kernel
theorem dX5_close_282 : decode cX5_close 282 = .ok (.invokestatic 104, 3) := by decide +kernel
theorem dX5_close_285 : decode cX5_close 285 = .ok (.aload_n 3, 1) := by decide +kernel
theorem dX5_close_286 : decode cX5_close 286 = .ok (.iconst 5, 1) := by decide +kernel
theorem dX5_close_287 : decode cX5_close 287 = .ok (.iaload, 1) := by decide +kernel
theorem dX5_close_288 : decode cX5_close 288 = .ok (.iload_n 2, 1) := by decide +kernel
theorem dX5_close_289 : decode cX5_close 289 = .ok (.invokestatic 86, 3) := by decide +kernel
theorem dX5_close_292 : decode cX5_close 292 = .ok (.invokestatic 86, 3) := by decide +kernel
theorem dX5_close_295 : decode cX5_close 295 = .ok (.istore 11, 2) := by decide +kernel
theorem dX5_close_297 : decode cX5_close 297 = .ok (.aload_n 0, 1) := by decide +kernel
theorem dX5_close_298 : decode cX5_close 298 = .ok (.iload 11, 2) := by decide +kernel
theorem dX5_close_300 : decode cX5_close 300 = .ok (.aload 6, 2) := by decide +kernel
theorem dX5_close_302 : decode cX5_close 302 = .ok (.aload_n 3, 1) := by decide +kernel
theorem dX5_close_303 : decode cX5_close 303 = .ok (.aload_n 3, 1) := by decide +kernel
theorem dX5_close_304 : decode cX5_close 304 = .ok (.iconst 0, 1) := by decide +kernel
theorem dX5_close_305 : decode cX5_close 305 = .ok (.iaload, 1) := by decide +kernel
theorem dX5_close_306 : decode cX5_close 306 = .ok (.invokevirtual 114, 3) := by decide +kernel
theorem dX5_close_309 : decode cX5_close 309 = .ok (.astore 10, 2) := by decide +kernel
theorem dX5_close_311 : decode cX5_close 311 = .ok (.aload_n 0, 1) := by decide +kernel
theorem dX5_close_312 : decode cX5_close 312 = .ok (.dup, 1) := by decide +kernel
theorem dX5_close_313 : decode cX5_close 313 = .ok (.getfield 111, 3) := by decide +kernel
theorem dX5_close_316 : decode cX5_close 316 = .ok (.iload 11, 2) := by decide +kernel
theorem dX5_close_318 : decode cX5_close 318 = .ok (.isub, 1) := by decide +kernel
theorem dX5_close_319 : decode cX5_close 319 = .ok (.putfield 111, 3) := by decide +kernel
theorem dX5_close_322 : decode cX5_close 322 = .ok (.aload 6, 2) := by decide +kernel
theorem dX5_close_324 : decode cX5_close 324 = .ok (.aload 10, 2) := by decide +kernel
theorem dX5_close_326 : decode cX5_close 326 = .ok (.invokestatic 118, 3) := by decide +kernel
theorem dX5_close_329 : decode cX5_close 329 = .ok (.iconst 0, 1) := by decide +kernel
theorem dX5_close_330 : decode cX5_close 330 = .ok (.istore 11, 2) := by decide +kernel
theorem dX5_close_332 : decode cX5_close 332 = .ok (.iload 11, 2) := by decide +kernel
theorem dX5_close_334 : decode cX5_close 334 = .ok (.aload_n 0, 1) := by decide +kernel
theorem dX5_close_335 : decode cX5_close 335 = .ok (.getfield 39, 3) := by decide +kernel
theorem dX5_close_338 : decode cX5_close 338 = .ok (.if_icmp .ge 158, 3) := by decide +kernel
theorem dX5_close_341 : decode cX5_close 341 = .ok (.bipush 7, 2) := by decide +kernel
theorem dX5_close_343 : decode cX5_close 343 = .ok (.newarray .int, 2) := by decide +kernel
theorem dX5_close_345 : decode cX5_close 345 = .ok (.dup, 1) := by decide +kernel
theorem dX5_close_346 : decode cX5_close 346 = .ok (.iconst 0, 1) := by decide +kernel
theorem dX5_close_347 : decode cX5_close 347 = .ok (.iconst 0, 1) := by decide +kernel
theorem dX5_close_348 : decode cX5_close 348 = .ok (.iastore, 1) := by decide +kernel
theorem dX5_close_349 : decode cX5_close 349 = .ok (.dup, 1) := by decide +kernel
theorem dX5_close_350 : decode cX5_close 350 = .ok (.iconst 1, 1) := by decide +kernel
theorem dX5_close_351 : decode cX5_close 351 = .ok (.aload 7, 2) := by decide +kernel
theorem dX5_close_353 : decode cX5_close 353 = .ok (.iload 11, 2) := by decide +kernel
theorem dX5_close_355 : decode cX5_close 355 = .ok (.iaload, 1) := by decide +kernel
theorem dX5_close_356 : decode cX5_close 356 = .ok (.iastore, 1) := by decide +kernel
theorem dX5_close_357 : decode cX5_close 357 = .ok (.dup, 1) := by decide +kernel
theorem dX5_close_358 : decode cX5_close 358 = .ok (.iconst 2, 1) := by decide +kernel
theorem dX5_close_359 : decode cX5_close 359 = .ok (.aload 10, 2) := by decide +kernel
theorem dX5_close_361 : decode cX5_close 361 = .ok (.iload 11, 2) := by decide +kernel
theorem dX5_close_363 : decode cX5_close 363 = .ok (.iaload, 1) := by decide +kernel
theorem dX5_close_364 : decode cX5_close 364 = .ok (.iastore, 1) := by decide +kernel
theorem dX5_close_365 : decode cX5_close 365 = .ok (.dup, 1) := by decide +kernel
theorem dX5_close_366 : decode cX5_close 366 = .ok (.iconst 3, 1) := by decide +kernel
theorem dX5_close_367 : decode cX5_close 367 = .ok (.aload 6, 2) := by decide +kernel
theorem dX5_close_369 : decode cX5_close 369 = .ok (.iload 11, 2) := by decide +kernel
theorem dX5_close_371 : decode cX5_close 371 = .ok (.iaload, 1) := by decide +kernel
theorem dX5_close_372 : decode cX5_close 372 = .ok (.iastore, 1) := by decide +kernel
theorem dX5_close_373 : decode cX5_close 373 = .ok (.dup, 1) := by decide +kernel
theorem dX5_close_374 : decode cX5_close 374 = .ok (.iconst 4, 1) := by decide +kernel
theorem dX5_close_375 : decode cX5_close 375 = .ok (.aload 8, 2) := by decide +kernel
theorem dX5_close_377 : decode cX5_close 377 = .ok (.iload 11, 2) := by decide +kernel
theorem dX5_close_379 : decode cX5_close 379 = .ok (.iaload, 1) := by decide +kernel
theorem dX5_close_380 : decode cX5_close 380 = .ok (.iastore, 1) := by decide +kernel
theorem dX5_close_381 : decode cX5_close 381 = .ok (.dup, 1) := by decide +kernel
theorem dX5_close_382 : decode cX5_close 382 = .ok (.iconst 5, 1) := by decide +kernel
theorem dX5_close_383 : decode cX5_close 383 = .ok (.aload 9, 2) := by decide +kernel
theorem dX5_close_385 : decode cX5_close 385 = .ok (.iload 11, 2) := by decide +kernel
theorem dX5_close_387 : decode cX5_close 387 = .ok (.iaload, 1) := by decide +kernel
theorem dX5_close_388 : decode cX5_close 388 = .ok (.iastore, 1) := by decide +kernel
theorem dX5_close_389 : decode cX5_close 389 = .ok (.dup, 1) := by decide +kernel
theorem dX5_close_390 : decode cX5_close 390 = .ok (.bipush 6, 2) := by decide +kernel
theorem dX5_close_392 : decode cX5_close 392 = .ok (.aload 5, 2) := by decide +kernel
theorem dX5_close_394 : decode cX5_close 394 = .ok (.iload 11, 2) := by decide +kernel
theorem dX5_close_396 : decode cX5_close 396 = .ok (.iaload, 1) := by decide +kernel
theorem dX5_close_397 : decode cX5_close 397 = .ok (.iastore, 1) := by decide +kernel
theorem dX5_close_398 : decode cX5_close 398 = .ok (.astore 12, 2) := by decide +kernel
theorem dX5_close_400 : decode cX5_close 400 = .ok (.iconst 1, 1) := by decide +kernel
theorem dX5_close_401 : decode cX5_close 401 = .ok (.istore 13, 2) := by decide +kernel
theorem dX5_close_403 : decode cX5_close 403 = .ok (.iload 13, 2) := by decide +kernel
theorem dX5_close_405 : decode cX5_close 405 = .ok (.bipush 7, 2) := by decide +kernel
theorem dX5_close_407 : decode cX5_close 407 = .ok (.if_icmp .ge 25, 3) := by decide +kernel
theorem dX5_close_410 : decode cX5_close 410 = .ok (.aload 4, 2) := by decide +kernel
theorem dX5_close_412 : decode cX5_close 412 = .ok (.bipush 8, 2) := by decide +kernel
theorem dX5_close_414 : decode cX5_close 414 = .ok (.iload 11, 2) := by decide +kernel
theorem dX5_close_416 : decode cX5_close 416 = .ok (.imul, 1) := by decide +kernel
theorem dX5_close_417 : decode cX5_close 417 = .ok (.iload 13, 2) := by decide +kernel
theorem dX5_close_419 : decode cX5_close 419 = .ok (.iadd, 1) := by decide +kernel
theorem dX5_close_420 : decode cX5_close 420 = .ok (.aload 12, 2) := by decide +kernel
theorem dX5_close_422 : decode cX5_close 422 = .ok (.iload 13, 2) := by decide +kernel
theorem dX5_close_424 : decode cX5_close 424 = .ok (.iaload, 1) := by decide +kernel
theorem dX5_close_425 : decode cX5_close 425 = .ok (.iastore, 1) := by decide +kernel
theorem dX5_close_426 : decode cX5_close 426 = .ok (.iinc 13 1, 3) := by decide +kernel
theorem dX5_close_429 : decode cX5_close 429 = .ok (.goto (-26), 3) := by decide +kernel
theorem dX5_close_432 : decode cX5_close 432 = .ok (.aload 4, 2) := by decide +kernel
theorem dX5_close_434 : decode cX5_close 434 = .ok (.bipush 8, 2) := by decide +kernel
theorem dX5_close_436 : decode cX5_close 436 = .ok (.iload 11, 2) := by decide +kernel
theorem dX5_close_438 : decode cX5_close 438 = .ok (.imul, 1) := by decide +kernel
theorem dX5_close_439 : decode cX5_close 439 = .ok (.bipush 7, 2) := by decide +kernel
theorem dX5_close_441 : decode cX5_close 441 = .ok (.iadd, 1) := by decide +kernel
theorem dX5_close_442 : decode cX5_close 442 = .ok (.aload_n 3, 1) := by decide +kernel
theorem dX5_close_443 : decode cX5_close 443 = .ok (.iconst 3, 1) := by decide +kernel
theorem dX5_close_444 : decode cX5_close 444 = .ok (.iaload, 1) := by decide +kernel
theorem dX5_close_445 : decode cX5_close 445 = .ok (.aload 8, 2) := by decide +kernel
theorem dX5_close_447 : decode cX5_close 447 = .ok (.iload 11, 2) := by decide +kernel
theorem dX5_close_449 : decode cX5_close 449 = .ok (.iaload, 1) := by decide +kernel
theorem dX5_close_450 : decode cX5_close 450 = .ok (.aload 9, 2) := by decide +kernel
theorem dX5_close_452 : decode cX5_close 452 = .ok (.iload 11, 2) := by decide +kernel
theorem dX5_close_454 : decode cX5_close 454 = .ok (.iaload, 1) := by decide +kernel
theorem dX5_close_455 : decode cX5_close 455 = .ok (.iadd, 1) := by decide +kernel
theorem dX5_close_456 : decode cX5_close 456 = .ok (.aload 7, 2) := by decide +kernel
theorem dX5_close_458 : decode cX5_close 458 = .ok (.iload 11, 2) := by decide +kernel
theorem dX5_close_460 : decode cX5_close 460 = .ok (.iaload, 1) := by decide +kernel
theorem dX5_close_461 : decode cX5_close 461 = .ok (.isub, 1) := by decide +kernel
theorem dX5_close_462 : decode cX5_close 462 = .ok (.aload 10, 2) := by decide +kernel
theorem dX5_close_464 : decode cX5_close 464 = .ok (.iload 11, 2) := by decide +kernel
theorem dX5_close_466 : decode cX5_close 466 = .ok (.iaload, 1) := by decide +kernel
theorem dX5_close_467 : decode cX5_close 467 = .ok (.isub, 1) := by decide +kernel
theorem dX5_close_468 : decode cX5_close 468 = .ok (.imul, 1) := by decide +kernel
theorem dX5_close_469 : decode cX5_close 469 = .ok (.aload_n 3, 1) := by decide +kernel
theorem dX5_close_470 : decode cX5_close 470 = .ok (.iconst 2, 1) := by decide +kernel
theorem dX5_close_471 : decode cX5_close 471 = .ok (.iaload, 1) := by decide +kernel
theorem dX5_close_472 : decode cX5_close 472 = .ok (.aload 5, 2) := by decide +kernel
theorem dX5_close_474 : decode cX5_close 474 = .ok (.iload 11, 2) := by decide +kernel
theorem dX5_close_476 : decode cX5_close 476 = .ok (.iaload, 1) := by decide +kernel
theorem dX5_close_477 : decode cX5_close 477 = .ok (.imul, 1) := by decide +kernel
theorem dX5_close_478 : decode cX5_close 478 = .ok (.iadd, 1) := by decide +kernel
theorem dX5_close_479 : decode cX5_close 479 = .ok (.aload_n 3, 1) := by decide +kernel
theorem dX5_close_480 : decode cX5_close 480 = .ok (.iconst 1, 1) := by decide +kernel
theorem dX5_close_481 : decode cX5_close 481 = .ok (.iaload, 1) := by decide +kernel
theorem dX5_close_482 : decode cX5_close 482 = .ok (.aload 6, 2) := by decide +kernel
theorem dX5_close_484 : decode cX5_close 484 = .ok (.iload 11, 2) := by decide +kernel
theorem dX5_close_486 : decode cX5_close 486 = .ok (.iaload, 1) := by decide +kernel
theorem dX5_close_487 : decode cX5_close 487 = .ok (.imul, 1) := by decide +kernel
theorem dX5_close_488 : decode cX5_close 488 = .ok (.isub, 1) := by decide +kernel
theorem dX5_close_489 : decode cX5_close 489 = .ok (.iastore, 1) := by decide +kernel
theorem dX5_close_490 : decode cX5_close 490 = .ok (.iinc 11 1, 3) := by decide +kernel
theorem dX5_close_493 : decode cX5_close 493 = .ok (.goto (-161), 3) := by decide +kernel
theorem dX5_close_496 : decode cX5_close 496 = .ok (.return_, 1) := by decide +kernel
