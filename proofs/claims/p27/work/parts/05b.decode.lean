theorem dX2_sumUsed_0 : decode cX2_sumUsed 0 = .ok (.iconst 0, 1) := by decide +kernel
theorem dX2_sumUsed_1 : decode cX2_sumUsed 1 = .ok (.istore_n 1, 1) := by decide +kernel
theorem dX2_sumUsed_2 : decode cX2_sumUsed 2 = .ok (.iconst 0, 1) := by decide +kernel
theorem dX2_sumUsed_3 : decode cX2_sumUsed 3 = .ok (.istore_n 2, 1) := by decide +kernel
theorem dX2_sumUsed_4 : decode cX2_sumUsed 4 = .ok (.iload_n 2, 1) := by decide +kernel
theorem dX2_sumUsed_5 : decode cX2_sumUsed 5 = .ok (.bipush 6, 2) := by decide +kernel
theorem dX2_sumUsed_7 : decode cX2_sumUsed 7 = .ok (.if_icmp .ge 20, 3) := by decide +kernel
theorem dX2_sumUsed_10 : decode cX2_sumUsed 10 = .ok (.iload_n 1, 1) := by decide +kernel
theorem dX2_sumUsed_11 : decode cX2_sumUsed 11 = .ok (.aload_n 0, 1) := by decide +kernel
theorem dX2_sumUsed_12 : decode cX2_sumUsed 12 = .ok (.getfield 22, 3) := by decide +kernel
theorem dX2_sumUsed_15 : decode cX2_sumUsed 15 = .ok (.iload_n 2, 1) := by decide +kernel
theorem dX2_sumUsed_16 : decode cX2_sumUsed 16 = .ok (.invokestatic 28, 3) := by decide +kernel
theorem dX2_sumUsed_19 : decode cX2_sumUsed 19 = .ok (.iadd, 1) := by decide +kernel
theorem dX2_sumUsed_20 : decode cX2_sumUsed 20 = .ok (.istore_n 1, 1) := by decide +kernel
theorem dX2_sumUsed_21 : decode cX2_sumUsed 21 = .ok (.iinc 2 1, 3) := by decide +kernel
theorem dX2_sumUsed_24 : decode cX2_sumUsed 24 = .ok (.goto (-20), 3) := by decide +kernel
theorem dX2_sumUsed_27 : decode cX2_sumUsed 27 = .ok (.iload_n 1, 1) := by decide +kernel
theorem dX2_sumUsed_28 : decode cX2_sumUsed 28 = .ok (.ireturn, 1) := by decide +kernel
theorem dX3_copy_0 : decode cX3_copy 0 = .ok (.iconst 0, 1) := by decide +kernel
theorem dX3_copy_1 : decode cX3_copy 1 = .ok (.istore_n 2, 1) := by decide +kernel
theorem dX3_copy_2 : decode cX3_copy 2 = .ok (.iload_n 2, 1) := by decide +kernel
theorem dX3_copy_3 : decode cX3_copy 3 = .ok (.bipush 6, 2) := by decide +kernel
theorem dX3_copy_5 : decode cX3_copy 5 = .ok (.if_icmp .ge 41, 3) := by decide +kernel
theorem dX3_copy_8 : decode cX3_copy 8 = .ok (.aload_n 0, 1) := by decide +kernel
theorem dX3_copy_9 : decode cX3_copy 9 = .ok (.getfield 9, 3) := by decide +kernel
theorem dX3_copy_12 : decode cX3_copy 12 = .ok (.iload_n 2, 1) := by decide +kernel
theorem dX3_copy_13 : decode cX3_copy 13 = .ok (.aload_n 1, 1) := by decide +kernel
theorem dX3_copy_14 : decode cX3_copy 14 = .ok (.getfield 9, 3) := by decide +kernel
theorem dX3_copy_17 : decode cX3_copy 17 = .ok (.iload_n 2, 1) := by decide +kernel
theorem dX3_copy_18 : decode cX3_copy 18 = .ok (.invokestatic 34, 3) := by decide +kernel
theorem dX3_copy_21 : decode cX3_copy 21 = .ok (.invokestatic 38, 3) := by decide +kernel
theorem dX3_copy_24 : decode cX3_copy 24 = .ok (.aload_n 0, 1) := by decide +kernel
theorem dX3_copy_25 : decode cX3_copy 25 = .ok (.getfield 15, 3) := by decide +kernel
theorem dX3_copy_28 : decode cX3_copy 28 = .ok (.iload_n 2, 1) := by decide +kernel
theorem dX3_copy_29 : decode cX3_copy 29 = .ok (.aload_n 1, 1) := by decide +kernel
theorem dX3_copy_30 : decode cX3_copy 30 = .ok (.getfield 15, 3) := by decide +kernel
theorem dX3_copy_33 : decode cX3_copy 33 = .ok (.iload_n 2, 1) := by decide +kernel
theorem dX3_copy_34 : decode cX3_copy 34 = .ok (.invokestatic 34, 3) := by decide +kernel
theorem dX3_copy_37 : decode cX3_copy 37 = .ok (.invokestatic 38, 3) := by decide +kernel
theorem dX3_copy_40 : decode cX3_copy 40 = .ok (.iinc 2 1, 3) := by decide +kernel
theorem dX3_copy_43 : decode cX3_copy 43 = .ok (.goto (-41), 3) := by decide +kernel
theorem dX3_copy_46 : decode cX3_copy 46 = .ok (.aload_n 0, 1) := by decide +kernel
theorem dX3_copy_47 : decode cX3_copy 47 = .ok (.aload_n 1, 1) := by decide +kernel
theorem dX3_copy_48 : decode cX3_copy 48 = .ok (.getfield 18, 3) := by decide +kernel
theorem dX3_copy_51 : decode cX3_copy 51 = .ok (.putfield 18, 3) := by decide +kernel
theorem dX3_copy_54 : decode cX3_copy 54 = .ok (.aload_n 0, 1) := by decide +kernel
theorem dX3_copy_55 : decode cX3_copy 55 = .ok (.aload_n 1, 1) := by decide +kernel
theorem dX3_copy_56 : decode cX3_copy 56 = .ok (.getfield 22, 3) := by decide +kernel
theorem dX3_copy_59 : decode cX3_copy 59 = .ok (.putfield 22, 3) := by decide +kernel
theorem dX3_copy_62 : decode cX3_copy 62 = .ok (.aload_n 0, 1) := by decide +kernel
theorem dX3_copy_63 : decode cX3_copy 63 = .ok (.aload_n 1, 1) := by decide +kernel
theorem dX3_copy_64 : decode cX3_copy 64 = .ok (.getfield 25, 3) := by decide +kernel
theorem dX3_copy_67 : decode cX3_copy 67 = .ok (.putfield 25, 3) := by decide +kernel
theorem dX3_copy_70 : decode cX3_copy 70 = .ok (.aload_n 0, 1) := by decide +kernel
theorem dX3_copy_71 : decode cX3_copy 71 = .ok (.aload_n 1, 1) := by decide +kernel
theorem dX3_copy_72 : decode cX3_copy 72 = .ok (.getfield 28, 3) := by decide +kernel
theorem dX3_copy_75 : decode cX3_copy 75 = .ok (.putfield 28, 3) := by decide +kernel
theorem dX3_copy_78 : decode cX3_copy 78 = .ok (.aload_n 0, 1) := by decide +kernel
theorem dX3_copy_79 : decode cX3_copy 79 = .ok (.aload_n 1, 1) := by decide +kernel
theorem dX3_copy_80 : decode cX3_copy 80 = .ok (.getfield 42, 3) := by decide +kernel
theorem dX3_copy_83 : decode cX3_copy 83 = .ok (.putfield 42, 3) := by decide +kernel
theorem dX3_copy_86 : decode cX3_copy 86 = .ok (.aload_n 0, 1) := by decide +kernel
theorem dX3_copy_87 : decode cX3_copy 87 = .ok (.aload_n 1, 1) := by decide +kernel
theorem dX3_copy_88 : decode cX3_copy 88 = .ok (.getfield 45, 3) := by decide +kernel
theorem dX3_copy_91 : decode cX3_copy 91 = .ok (.putfield 45, 3) := by decide +kernel
theorem dX3_copy_94 : decode cX3_copy 94 = .ok (.aload_n 0, 1) := by decide +kernel
theorem dX3_copy_95 : decode cX3_copy 95 = .ok (.aload_n 1, 1) := by decide +kernel
theorem dX3_copy_96 : decode cX3_copy 96 = .ok (.getfield 31, 3) := by decide +kernel
theorem dX3_copy_99 : decode cX3_copy 99 = .ok (.putfield 31, 3) := by decide +kernel
theorem dX3_copy_102 : decode cX3_copy 102 = .ok (.return_, 1) := by decide +kernel
theorem dX3_init_0 : decode cX3_init 0 = .ok (.aload_n 0, 1) := by decide +kernel
theorem dX3_init_1 : decode cX3_init 1 = .ok (.invokespecial 3, 3) := by decide +kernel
theorem dX3_init_4 : decode cX3_init 4 = .ok (.aload_n 0, 1) := by decide +kernel
theorem dX3_init_5 : decode cX3_init 5 = .ok (.bipush 6, 2) := by decide +kernel
theorem dX3_init_7 : decode cX3_init 7 = .ok (.newarray .int, 2) := by decide +kernel
theorem dX3_init_9 : decode cX3_init 9 = .ok (.putfield 9, 3) := by decide +kernel
theorem dX3_init_12 : decode cX3_init 12 = .ok (.aload_n 0, 1) := by decide +kernel
theorem dX3_init_13 : decode cX3_init 13 = .ok (.bipush 6, 2) := by decide +kernel
theorem dX3_init_15 : decode cX3_init 15 = .ok (.newarray .int, 2) := by decide +kernel
theorem dX3_init_17 : decode cX3_init 17 = .ok (.putfield 15, 3) := by decide +kernel
theorem dX3_init_20 : decode cX3_init 20 = .ok (.aload_n 0, 1) := by decide +kernel
theorem dX3_init_21 : decode cX3_init 21 = .ok (.iconst 0, 1) := by decide +kernel
theorem dX3_init_22 : decode cX3_init 22 = .ok (.putfield 18, 3) := by decide +kernel
theorem dX3_init_25 : decode cX3_init 25 = .ok (.aload_n 0, 1) := by decide +kernel
theorem dX3_init_26 : decode cX3_init 26 = .ok (.bipush 30, 2) := by decide +kernel
theorem dX3_init_28 : decode cX3_init 28 = .ok (.putfield 22, 3) := by decide +kernel
theorem dX3_init_31 : decode cX3_init 31 = .ok (.aload_n 0, 1) := by decide +kernel
theorem dX3_init_32 : decode cX3_init 32 = .ok (.bipush 8, 2) := by decide +kernel
theorem dX3_init_34 : decode cX3_init 34 = .ok (.putfield 25, 3) := by decide +kernel
theorem dX3_init_37 : decode cX3_init 37 = .ok (.aload_n 0, 1) := by decide +kernel
theorem dX3_init_38 : decode cX3_init 38 = .ok (.bipush 18, 2) := by decide +kernel
theorem dX3_init_40 : decode cX3_init 40 = .ok (.putfield 28, 3) := by decide +kernel
theorem dX3_init_43 : decode cX3_init 43 = .ok (.aload_n 0, 1) := by decide +kernel
theorem dX3_init_44 : decode cX3_init 44 = .ok (.bipush 100, 2) := by decide +kernel
theorem dX3_init_46 : decode cX3_init 46 = .ok (.putfield 31, 3) := by decide +kernel
theorem dX3_init_49 : decode cX3_init 49 = .ok (.return_, 1) := by decide +kernel
theorem dX4_account_0 : decode cX4_account 0 = .ok (.aload_n 0, 1) := by decide +kernel
theorem dX4_account_1 : decode cX4_account 1 = .ok (.iload_n 1, 1) := by decide +kernel
theorem dX4_account_2 : decode cX4_account 2 = .ok (.invokevirtual 66, 3) := by decide +kernel
theorem dX4_account_5 : decode cX4_account 5 = .ok (.iload_n 2, 1) := by decide +kernel
theorem dX4_account_6 : decode cX4_account 6 = .ok (.ifCond .eq 10, 3) := by decide +kernel
theorem dX4_account_9 : decode cX4_account 9 = .ok (.aload_n 0, 1) := by decide +kernel
theorem dX4_account_10 : decode cX4_account 10 = .ok (.getfield 38, 3) := by decide +kernel
theorem dX4_account_13 : decode cX4_account 13 = .ok (.goto 7, 3) := by decide +kernel
theorem dX4_account_16 : decode cX4_account 16 = .ok (.aload_n 0, 1) := by decide +kernel
theorem dX4_account_17 : decode cX4_account 17 = .ok (.getfield 34, 3) := by decide +kernel
theorem dX4_account_20 : decode cX4_account 20 = .ok (.iload_n 1, 1) := by decide +kernel
theorem dX4_account_21 : decode cX4_account 21 = .ok (.invokestatic 159, 3) := by decide +kernel
theorem dX4_account_24 : decode cX4_account 24 = .ok (.lreturn, 1) := by decide +kernel
theorem dX4_add_0 : decode cX4_add 0 = .ok (.aload_n 0, 1) := by decide +kernel
theorem dX4_add_1 : decode cX4_add 1 = .ok (.iload_n 1, 1) := by decide +kernel
theorem dX4_add_2 : decode cX4_add 2 = .ok (.aload_n 0, 1) := by decide +kernel
theorem dX4_add_3 : decode cX4_add 3 = .ok (.iload_n 1, 1) := by decide +kernel
theorem dX4_add_4 : decode cX4_add 4 = .ok (.invokestatic 159, 3) := by decide +kernel
theorem dX4_add_7 : decode cX4_add 7 = .ok (.lload_n 2, 1) := by decide +kernel
theorem dX4_add_8 : decode cX4_add 8 = .ok (.ladd, 1) := by decide +kernel
theorem dX4_add_9 : decode cX4_add 9 = .ok (.invokestatic 192, 3) := by decide +kernel
theorem dX4_add_12 : decode cX4_add 12 = .ok (.return_, 1) := by decide +kernel
theorem dX4_addMember_0 : decode cX4_addMember 0 = .ok (.aload_n 0, 1) := by decide +kernel
theorem dX4_addMember_1 : decode cX4_addMember 1 = .ok (.getfield 41, 3) := by decide +kernel
theorem dX4_addMember_4 : decode cX4_addMember 4 = .ok (.bipush 6, 2) := by decide +kernel
theorem dX4_addMember_6 : decode cX4_addMember 6 = .ok (.if_icmp .ge 10, 3) := by decide +kernel
theorem dX4_addMember_9 : decode cX4_addMember 9 = .ok (.aload_n 0, 1) := by decide +kernel
theorem dX4_addMember_10 : decode cX4_addMember 10 = .ok (.getfield 45, 3) := by decide +kernel
theorem dX4_addMember_13 : decode cX4_addMember 13 = .ok (.ifCond .le 13, 3) := by decide +kernel
theorem dX4_addMember_16 : decode cX4_addMember 16 = .ok (.new 48, 3) := by decide +kernel
theorem dX4_addMember_19 : decode cX4_addMember 19 = .ok (.dup, 1) := by decide +kernel
theorem dX4_addMember_20 : decode cX4_addMember 20 = .ok (.ldc 50, 2) := by decide +kernel
theorem dX4_addMember_22 : decode cX4_addMember 22 = .ok (.invokespecial 52, 3) := by decide +kernel
theorem dX4_addMember_25 : decode cX4_addMember 25 = .ok (.athrow, 1) := by decide +kernel
theorem dX4_addMember_26 : decode cX4_addMember 26 = .ok (.aload_n 0, 1) := by decide +kernel
theorem dX4_addMember_27 : decode cX4_addMember 27 = .ok (.getfield 41, 3) := by decide +kernel
theorem dX4_addMember_30 : decode cX4_addMember 30 = .ok (.istore_n 1, 1) := by decide +kernel
theorem dX4_addMember_31 : decode cX4_addMember 31 = .ok (.aload_n 0, 1) := by decide +kernel
theorem dX4_addMember_32 : decode cX4_addMember 32 = .ok (.getfield 10, 3) := by decide +kernel
theorem dX4_addMember_35 : decode cX4_addMember 35 = .ok (.getfield 55, 3) := by decide +kernel
theorem dX4_addMember_38 : decode cX4_addMember 38 = .ok (.iload_n 1, 1) := by decide +kernel
theorem dX4_addMember_39 : decode cX4_addMember 39 = .ok (.bipush 10, 2) := by decide +kernel
theorem dX4_addMember_41 : decode cX4_addMember 41 = .ok (.invokestatic 59, 3) := by decide +kernel
theorem dX4_addMember_44 : decode cX4_addMember 44 = .ok (.aload_n 0, 1) := by decide +kernel
theorem dX4_addMember_45 : decode cX4_addMember 45 = .ok (.getfield 10, 3) := by decide +kernel
theorem dX4_addMember_48 : decode cX4_addMember 48 = .ok (.getfield 63, 3) := by decide +kernel
theorem dX4_addMember_51 : decode cX4_addMember 51 = .ok (.iload_n 1, 1) := by decide +kernel
theorem dX4_addMember_52 : decode cX4_addMember 52 = .ok (.iload_n 1, 1) := by decide +kernel
theorem dX4_addMember_53 : decode cX4_addMember 53 = .ok (.invokestatic 59, 3) := by decide +kernel
theorem dX4_addMember_56 : decode cX4_addMember 56 = .ok (.aload_n 0, 1) := by decide +kernel
theorem dX4_addMember_57 : decode cX4_addMember 57 = .ok (.dup, 1) := by decide +kernel
theorem dX4_addMember_58 : decode cX4_addMember 58 = .ok (.getfield 41, 3) := by decide +kernel
theorem dX4_addMember_61 : decode cX4_addMember 61 = .ok (.iconst 1, 1) := by decide +kernel
theorem dX4_addMember_62 : decode cX4_addMember 62 = .ok (.iadd, 1) := by decide +kernel
theorem dX4_addMember_63 : decode cX4_addMember 63 = .ok (.putfield 41, 3) := by decide +kernel
theorem dX4_addMember_66 : decode cX4_addMember 66 = .ok (.iload_n 1, 1) := by decide +kernel
theorem dX4_addMember_67 : decode cX4_addMember 67 = .ok (.ireturn, 1) := by decide +kernel
theorem dX4_at_0 : decode cX4_at 0 = .ok (.aload_n 0, 1) := by decide +kernel
theorem dX4_at_1 : decode cX4_at 1 = .ok (.ifnull 19, 3) := by decide +kernel
theorem dX4_at_4 : decode cX4_at 4 = .ok (.iload_n 1, 1) := by decide +kernel
theorem dX4_at_5 : decode cX4_at 5 = .ok (.ifCond .lt 15, 3) := by decide +kernel
theorem dX4_at_8 : decode cX4_at 8 = .ok (.iload_n 1, 1) := by decide +kernel
theorem dX4_at_9 : decode cX4_at 9 = .ok (.aload_n 0, 1) := by decide +kernel
theorem dX4_at_10 : decode cX4_at 10 = .ok (.arraylength, 1) := by decide +kernel
theorem dX4_at_11 : decode cX4_at 11 = .ok (.if_icmp .ge 9, 3) := by decide +kernel
theorem dX4_at_14 : decode cX4_at 14 = .ok (.aload_n 0, 1) := by decide +kernel
theorem dX4_at_15 : decode cX4_at 15 = .ok (.iload_n 1, 1) := by decide +kernel
theorem dX4_at_16 : decode cX4_at 16 = .ok (.iaload, 1) := by decide +kernel
theorem dX4_at_17 : decode cX4_at 17 = .ok (.goto 4, 3) := by decide +kernel
theorem dX4_at_20 : decode cX4_at 20 = .ok (.iconst 0, 1) := by decide +kernel
theorem dX4_at_21 : decode cX4_at 21 = .ok (.ireturn, 1) := by decide +kernel
theorem dX4_at__0 : decode cX4_at_ 0 = .ok (.aload_n 0, 1) := by decide +kernel
theorem dX4_at__1 : decode cX4_at_ 1 = .ok (.ifnull 19, 3) := by decide +kernel
theorem dX4_at__4 : decode cX4_at_ 4 = .ok (.iload_n 1, 1) := by decide +kernel
theorem dX4_at__5 : decode cX4_at_ 5 = .ok (.ifCond .lt 15, 3) := by decide +kernel
theorem dX4_at__8 : decode cX4_at_ 8 = .ok (.iload_n 1, 1) := by decide +kernel
theorem dX4_at__9 : decode cX4_at_ 9 = .ok (.aload_n 0, 1) := by decide +kernel
theorem dX4_at__10 : decode cX4_at_ 10 = .ok (.arraylength, 1) := by decide +kernel
theorem dX4_at__11 : decode cX4_at_ 11 = .ok (.if_icmp .ge 9, 3) := by decide +kernel
theorem dX4_at__14 : decode cX4_at_ 14 = .ok (.aload_n 0, 1) := by decide +kernel
theorem dX4_at__15 : decode cX4_at_ 15 = .ok (.iload_n 1, 1) := by decide +kernel
theorem dX4_at__16 : decode cX4_at_ 16 = .ok (.laload, 1) := by decide +kernel
theorem dX4_at__17 : decode cX4_at_ 17 = .ok (.goto 4, 3) := by decide +kernel
theorem dX4_at__20 : decode cX4_at_ 20 = .ok (.lconst 0, 1) := by decide +kernel
theorem dX4_at__21 : decode cX4_at_ 21 = .ok (.lreturn, 1) := by decide +kernel
theorem dX4_book_0 : decode cX4_book 0 = .ok (.aload_n 1, 1) := by decide +kernel
theorem dX4_book_1 : decode cX4_book 1 = .ok (.getfield 129, 3) := by decide +kernel
theorem dX4_book_4 : decode cX4_book 4 = .ok (.astore_n 3, 1) := by decide +kernel
theorem dX4_book_5 : decode cX4_book 5 = .ok (.iconst 0, 1) := by decide +kernel
theorem dX4_book_6 : decode cX4_book 6 = .ok (.istore 4, 2) := by decide +kernel
theorem dX4_book_8 : decode cX4_book 8 = .ok (.iload 4, 2) := by decide +kernel
theorem dX4_book_10 : decode cX4_book 10 = .ok (.aload_n 0, 1) := by decide +kernel
theorem dX4_book_11 : decode cX4_book 11 = .ok (.getfield 41, 3) := by decide +kernel
theorem dX4_book_14 : decode cX4_book 14 = .ok (.if_icmp .ge 29, 3) := by decide +kernel
theorem dX4_book_17 : decode cX4_book 17 = .ok (.aload_n 0, 1) := by decide +kernel
theorem dX4_book_18 : decode cX4_book 18 = .ok (.getfield 34, 3) := by decide +kernel
theorem dX4_book_21 : decode cX4_book 21 = .ok (.iload 4, 2) := by decide +kernel
theorem dX4_book_23 : decode cX4_book 23 = .ok (.iload_n 2, 1) := by decide +kernel
theorem dX4_book_24 : decode cX4_book 24 = .ok (.aload_n 1, 1) := by decide +kernel
theorem dX4_book_25 : decode cX4_book 25 = .ok (.iload 4, 2) := by decide +kernel
theorem dX4_book_27 : decode cX4_book 27 = .ok (.bipush 7, 2) := by decide +kernel
theorem dX4_book_29 : decode cX4_book 29 = .ok (.invokevirtual 169, 3) := by decide +kernel
theorem dX4_book_32 : decode cX4_book 32 = .ok (.imul, 1) := by decide +kernel
theorem dX4_book_33 : decode cX4_book 33 = .ok (.i2l, 1) := by decide +kernel
theorem dX4_book_34 : decode cX4_book 34 = .ok (.invokestatic 188, 3) := by decide +kernel
theorem dX4_book_37 : decode cX4_book 37 = .ok (.iinc 4 1, 3) := by decide +kernel
theorem dX4_book_40 : decode cX4_book 40 = .ok (.goto (-32), 3) := by decide +kernel
theorem dX4_book_43 : decode cX4_book 43 = .ok (.aload_n 0, 1) := by decide +kernel
theorem dX4_book_44 : decode cX4_book 44 = .ok (.dup, 1) := by decide +kernel
theorem dX4_book_45 : decode cX4_book 45 = .ok (.getfield 178, 3) := by decide +kernel
theorem dX4_book_48 : decode cX4_book 48 = .ok (.iload_n 2, 1) := by decide +kernel
theorem dX4_book_49 : decode cX4_book 49 = .ok (.aload_n 3, 1) := by decide +kernel
theorem dX4_book_50 : decode cX4_book 50 = .ok (.getfield 81, 3) := by decide +kernel
theorem dX4_book_53 : decode cX4_book 53 = .ok (.imul, 1) := by decide +kernel
theorem dX4_book_54 : decode cX4_book 54 = .ok (.aload_n 1, 1) := by decide +kernel
theorem dX4_book_55 : decode cX4_book 55 = .ok (.iconst 2, 1) := by decide +kernel
theorem dX4_book_56 : decode cX4_book 56 = .ok (.invokevirtual 150, 3) := by decide +kernel
theorem dX4_book_59 : decode cX4_book 59 = .ok (.aload_n 1, 1) := by decide +kernel
theorem dX4_book_60 : decode cX4_book 60 = .ok (.iconst 5, 1) := by decide +kernel
theorem dX4_book_61 : decode cX4_book 61 = .ok (.invokevirtual 150, 3) := by decide +kernel
theorem dX4_book_64 : decode cX4_book 64 = .ok (.isub, 1) := by decide +kernel
theorem dX4_book_65 : decode cX4_book 65 = .ok (.imul, 1) := by decide +kernel
theorem dX4_book_66 : decode cX4_book 66 = .ok (.i2l, 1) := by decide +kernel
theorem dX4_book_67 : decode cX4_book 67 = .ok (.ladd, 1) := by decide +kernel
theorem dX4_book_68 : decode cX4_book 68 = .ok (.putfield 178, 3) := by decide +kernel
theorem dX4_book_71 : decode cX4_book 71 = .ok (.aload_n 0, 1) := by decide +kernel
theorem dX4_book_72 : decode cX4_book 72 = .ok (.dup, 1) := by decide +kernel
theorem dX4_book_73 : decode cX4_book 73 = .ok (.getfield 182, 3) := by decide +kernel
theorem dX4_book_76 : decode cX4_book 76 = .ok (.iload_n 2, 1) := by decide +kernel
theorem dX4_book_77 : decode cX4_book 77 = .ok (.aload_n 3, 1) := by decide +kernel
theorem dX4_book_78 : decode cX4_book 78 = .ok (.getfield 84, 3) := by decide +kernel
theorem dX4_book_81 : decode cX4_book 81 = .ok (.aload_n 1, 1) := by decide +kernel
theorem dX4_book_82 : decode cX4_book 82 = .ok (.iconst 3, 1) := by decide +kernel
theorem dX4_book_83 : decode cX4_book 83 = .ok (.invokevirtual 150, 3) := by decide +kernel
theorem dX4_book_86 : decode cX4_book 86 = .ok (.imul, 1) := by decide +kernel
theorem dX4_book_87 : decode cX4_book 87 = .ok (.aload_n 3, 1) := by decide +kernel
theorem dX4_book_88 : decode cX4_book 88 = .ok (.getfield 87, 3) := by decide +kernel
theorem dX4_book_91 : decode cX4_book 91 = .ok (.aload_n 1, 1) := by decide +kernel
theorem dX4_book_92 : decode cX4_book 92 = .ok (.bipush 6, 2) := by decide +kernel
theorem dX4_book_94 : decode cX4_book 94 = .ok (.invokevirtual 150, 3) := by decide +kernel
theorem dX4_book_97 : decode cX4_book 97 = .ok (.imul, 1) := by decide +kernel
theorem dX4_book_98 : decode cX4_book 98 = .ok (.isub, 1) := by decide +kernel
theorem dX4_book_99 : decode cX4_book 99 = .ok (.imul, 1) := by decide +kernel
theorem dX4_book_100 : decode cX4_book 100 = .ok (.i2l, 1) := by decide +kernel
theorem dX4_book_101 : decode cX4_book 101 = .ok (.ladd, 1) := by decide +kernel
theorem dX4_book_102 : decode cX4_book 102 = .ok (.putfield 182, 3) := by decide +kernel
theorem dX4_book_105 : decode cX4_book 105 = .ok (.return_, 1) := by decide +kernel
theorem dX4_checkArgument_0 : decode cX4_checkArgument 0 = .ok (.iload_n 0, 1) := by decide +kernel
theorem dX4_checkArgument_1 : decode cX4_checkArgument 1 = .ok (.iload_n 1, 1) := by decide +kernel
theorem dX4_checkArgument_2 : decode cX4_checkArgument 2 = .ok (.if_icmp .lt 8, 3) := by decide +kernel
theorem dX4_checkArgument_5 : decode cX4_checkArgument 5 = .ok (.iload_n 0, 1) := by decide +kernel
theorem dX4_checkArgument_6 : decode cX4_checkArgument 6 = .ok (.iload_n 2, 1) := by decide +kernel
theorem dX4_checkArgument_7 : decode cX4_checkArgument 7 = .ok (.if_icmp .le 13, 3) := by decide +kernel
theorem dX4_checkArgument_10 : decode cX4_checkArgument 10 = .ok (.new 196, 3) := by decide +kernel
theorem dX4_checkArgument_13 : decode cX4_checkArgument 13 = .ok (.dup, 1) := by decide +kernel
theorem dX4_checkArgument_14 : decode cX4_checkArgument 14 = .ok (.ldc 227, 2) := by decide +kernel
theorem dX4_checkArgument_16 : decode cX4_checkArgument 16 = .ok (.invokespecial 200, 3) := by decide +kernel
theorem dX4_checkArgument_19 : decode cX4_checkArgument 19 = .ok (.athrow, 1) := by decide +kernel
theorem dX4_checkArgument_20 : decode cX4_checkArgument 20 = .ok (.return_, 1) := by decide +kernel
theorem dX4_checkIndex_0 : decode cX4_checkIndex 0 = .ok (.iload_n 0, 1) := by decide +kernel
theorem dX4_checkIndex_1 : decode cX4_checkIndex 1 = .ok (.ifCond .lt 8, 3) := by decide +kernel
theorem dX4_checkIndex_4 : decode cX4_checkIndex 4 = .ok (.iload_n 0, 1) := by decide +kernel
theorem dX4_checkIndex_5 : decode cX4_checkIndex 5 = .ok (.iload_n 1, 1) := by decide +kernel
theorem dX4_checkIndex_6 : decode cX4_checkIndex 6 = .ok (.if_icmp .lt 13, 3) := by decide +kernel
theorem dX4_checkIndex_9 : decode cX4_checkIndex 9 = .ok (.new 222, 3) := by decide +kernel
theorem dX4_checkIndex_12 : decode cX4_checkIndex 12 = .ok (.dup, 1) := by decide +kernel
theorem dX4_checkIndex_13 : decode cX4_checkIndex 13 = .ok (.ldc 224, 2) := by decide +kernel
theorem dX4_checkIndex_15 : decode cX4_checkIndex 15 = .ok (.invokespecial 226, 3) := by decide +kernel
theorem dX4_checkIndex_18 : decode cX4_checkIndex 18 = .ok (.athrow, 1) := by decide +kernel
theorem dX4_checkIndex_19 : decode cX4_checkIndex 19 = .ok (.return_, 1) := by decide +kernel
theorem dX4_checkMember_0 : decode cX4_checkMember 0 = .ok (.iload_n 1, 1) := by decide +kernel
theorem dX4_checkMember_1 : decode cX4_checkMember 1 = .ok (.aload_n 0, 1) := by decide +kernel
theorem dX4_checkMember_2 : decode cX4_checkMember 2 = .ok (.getfield 41, 3) := by decide +kernel
theorem dX4_checkMember_5 : decode cX4_checkMember 5 = .ok (.invokestatic 165, 3) := by decide +kernel
theorem dX4_checkMember_8 : decode cX4_checkMember 8 = .ok (.return_, 1) := by decide +kernel
theorem dX4_checkSlot_0 : decode cX4_checkSlot 0 = .ok (.iload_n 0, 1) := by decide +kernel
theorem dX4_checkSlot_1 : decode cX4_checkSlot 1 = .ok (.bipush 48, 2) := by decide +kernel
theorem dX4_checkSlot_3 : decode cX4_checkSlot 3 = .ok (.invokestatic 165, 3) := by decide +kernel
theorem dX4_checkSlot_6 : decode cX4_checkSlot 6 = .ok (.return_, 1) := by decide +kernel
theorem dX4_close_0 : decode cX4_close 0 = .ok (.aload_n 0, 1) := by decide +kernel
theorem dX4_close_1 : decode cX4_close 1 = .ok (.getfield 45, 3) := by decide +kernel
theorem dX4_close_4 : decode cX4_close 4 = .ok (.bipush 48, 2) := by decide +kernel
theorem dX4_close_6 : decode cX4_close 6 = .ok (.if_icmp .ge 10, 3) := by decide +kernel
theorem dX4_close_9 : decode cX4_close 9 = .ok (.aload_n 0, 1) := by decide +kernel
theorem dX4_close_10 : decode cX4_close 10 = .ok (.getfield 41, 3) := by decide +kernel
theorem dX4_close_13 : decode cX4_close 13 = .ok (.ifCond .ne 13, 3) := by decide +kernel
theorem dX4_close_16 : decode cX4_close 16 = .ok (.new 48, 3) := by decide +kernel
theorem dX4_close_19 : decode cX4_close 19 = .ok (.dup, 1) := by decide +kernel
theorem dX4_close_20 : decode cX4_close 20 = .ok (.ldc 127, 2) := by decide +kernel
theorem dX4_close_22 : decode cX4_close 22 = .ok (.invokespecial 52, 3) := by decide +kernel
theorem dX4_close_25 : decode cX4_close 25 = .ok (.athrow, 1) := by decide +kernel
theorem dX4_close_26 : decode cX4_close 26 = .ok (.aload_n 0, 1) := by decide +kernel
theorem dX4_close_27 : decode cX4_close 27 = .ok (.aload_n 0, 1) := by decide +kernel
theorem dX4_close_28 : decode cX4_close 28 = .ok (.getfield 45, 3) := by decide +kernel
theorem dX4_close_31 : decode cX4_close 31 = .ok (.invokevirtual 113, 3) := by decide +kernel
theorem dX4_close_34 : decode cX4_close 34 = .ok (.astore_n 1, 1) := by decide +kernel
theorem dX4_close_35 : decode cX4_close 35 = .ok (.aload_n 1, 1) := by decide +kernel
theorem dX4_close_36 : decode cX4_close 36 = .ok (.getfield 129, 3) := by decide +kernel
theorem dX4_close_39 : decode cX4_close 39 = .ok (.aload_n 0, 1) := by decide +kernel
theorem dX4_close_40 : decode cX4_close 40 = .ok (.getfield 10, 3) := by decide +kernel
theorem dX4_close_43 : decode cX4_close 43 = .ok (.invokevirtual 132, 3) := by decide +kernel
theorem dX4_close_46 : decode cX4_close 46 = .ok (.aload_n 1, 1) := by decide +kernel
theorem dX4_close_47 : decode cX4_close 47 = .ok (.aload_n 0, 1) := by decide +kernel
theorem dX4_close_48 : decode cX4_close 48 = .ok (.getfield 99, 3) := by decide +kernel
theorem dX4_close_51 : decode cX4_close 51 = .ok (.putfield 136, 3) := by decide +kernel
theorem dX4_close_54 : decode cX4_close 54 = .ok (.aload_n 0, 1) := by decide +kernel
theorem dX4_close_55 : decode cX4_close 55 = .ok (.getfield 30, 3) := by decide +kernel
theorem dX4_close_58 : decode cX4_close 58 = .ok (.aload_n 1, 1) := by decide +kernel
theorem dX4_close_59 : decode cX4_close 59 = .ok (.invokevirtual 139, 3) := by decide +kernel
theorem dX4_close_62 : decode cX4_close 62 = .ok (.aload_n 0, 1) := by decide +kernel
theorem dX4_close_63 : decode cX4_close 63 = .ok (.aload_n 1, 1) := by decide +kernel
theorem dX4_close_64 : decode cX4_close 64 = .ok (.iconst 1, 1) := by decide +kernel
theorem dX4_close_65 : decode cX4_close 65 = .ok (.invokevirtual 143, 3) := by decide +kernel
theorem dX4_close_68 : decode cX4_close 68 = .ok (.aload_n 0, 1) := by decide +kernel
theorem dX4_close_69 : decode cX4_close 69 = .ok (.aload_n 1, 1) := by decide +kernel
theorem dX4_close_70 : decode cX4_close 70 = .ok (.getfield 147, 3) := by decide +kernel
theorem dX4_close_73 : decode cX4_close 73 = .ok (.putfield 99, 3) := by decide +kernel
theorem dX4_close_76 : decode cX4_close 76 = .ok (.aload_n 0, 1) := by decide +kernel
theorem dX4_close_77 : decode cX4_close 77 = .ok (.dup, 1) := by decide +kernel
theorem dX4_close_78 : decode cX4_close 78 = .ok (.getfield 45, 3) := by decide +kernel
theorem dX4_close_81 : decode cX4_close 81 = .ok (.iconst 1, 1) := by decide +kernel
theorem dX4_close_82 : decode cX4_close 82 = .ok (.iadd, 1) := by decide +kernel
theorem dX4_close_83 : decode cX4_close 83 = .ok (.putfield 45, 3) := by decide +kernel
theorem dX4_close_86 : decode cX4_close 86 = .ok (.aload_n 1, 1) := by decide +kernel
theorem dX4_close_87 : decode cX4_close 87 = .ok (.iconst 1, 1) := by decide +kernel
theorem dX4_close_88 : decode cX4_close 88 = .ok (.invokevirtual 150, 3) := by decide +kernel
theorem dX4_close_91 : decode cX4_close 91 = .ok (.ireturn, 1) := by decide +kernel
theorem dX4_common_0 : decode cX4_common 0 = .ok (.iload_n 1, 1) := by decide +kernel
theorem dX4_common_1 : decode cX4_common 1 = .ok (.iconst 3, 1) := by decide +kernel
theorem dX4_common_2 : decode cX4_common 2 = .ok (.invokestatic 165, 3) := by decide +kernel
theorem dX4_common_5 : decode cX4_common 5 = .ok (.iload_n 1, 1) := by decide +kernel
theorem dX4_common_6 : decode cX4_common 6 = .ok (.ifCond .ne 8, 3) := by decide +kernel
theorem dX4_common_9 : decode cX4_common 9 = .ok (.aload_n 0, 1) := by decide +kernel
theorem dX4_common_10 : decode cX4_common 10 = .ok (.getfield 178, 3) := by decide +kernel
theorem dX4_common_13 : decode cX4_common 13 = .ok (.lreturn, 1) := by decide +kernel
theorem dX4_common_14 : decode cX4_common 14 = .ok (.iload_n 1, 1) := by decide +kernel
theorem dX4_common_15 : decode cX4_common 15 = .ok (.iconst 1, 1) := by decide +kernel
theorem dX4_common_16 : decode cX4_common 16 = .ok (.if_icmp .ne 10, 3) := by decide +kernel
theorem dX4_common_19 : decode cX4_common 19 = .ok (.aload_n 0, 1) := by decide +kernel
theorem dX4_common_20 : decode cX4_common 20 = .ok (.getfield 182, 3) := by decide +kernel
theorem dX4_common_23 : decode cX4_common 23 = .ok (.goto 7, 3) := by decide +kernel
theorem dX4_common_26 : decode cX4_common 26 = .ok (.aload_n 0, 1) := by decide +kernel
theorem dX4_common_27 : decode cX4_common 27 = .ok (.getfield 185, 3) := by decide +kernel
theorem dX4_common_30 : decode cX4_common 30 = .ok (.lreturn, 1) := by decide +kernel
theorem dX4_content_0 : decode cX4_content 0 = .ok (.aload_n 0, 1) := by decide +kernel
theorem dX4_content_1 : decode cX4_content 1 = .ok (.getfield 99, 3) := by decide +kernel
theorem dX4_content_4 : decode cX4_content 4 = .ok (.ireturn, 1) := by decide +kernel
theorem dX4_contentAt_0 : decode cX4_contentAt 0 = .ok (.iload_n 1, 1) := by decide +kernel
theorem dX4_contentAt_1 : decode cX4_contentAt 1 = .ok (.invokestatic 108, 3) := by decide +kernel
theorem dX4_contentAt_4 : decode cX4_contentAt 4 = .ok (.iload_n 1, 1) := by decide +kernel
theorem dX4_contentAt_5 : decode cX4_contentAt 5 = .ok (.aload_n 0, 1) := by decide +kernel
theorem dX4_contentAt_6 : decode cX4_contentAt 6 = .ok (.getfield 45, 3) := by decide +kernel
theorem dX4_contentAt_9 : decode cX4_contentAt 9 = .ok (.if_icmp .ge 14, 3) := by decide +kernel
theorem dX4_contentAt_12 : decode cX4_contentAt 12 = .ok (.aload_n 0, 1) := by decide +kernel
theorem dX4_contentAt_13 : decode cX4_contentAt 13 = .ok (.iload_n 1, 1) := by decide +kernel
theorem dX4_contentAt_14 : decode cX4_contentAt 14 = .ok (.invokevirtual 113, 3) := by decide +kernel
theorem dX4_contentAt_17 : decode cX4_contentAt 17 = .ok (.getfield 136, 3) := by decide +kernel
theorem dX4_contentAt_20 : decode cX4_contentAt 20 = .ok (.goto 4, 3) := by decide +kernel
theorem dX4_contentAt_23 : decode cX4_contentAt 23 = .ok (.iconst (-1), 1) := by decide +kernel
theorem dX4_contentAt_24 : decode cX4_contentAt 24 = .ok (.ireturn, 1) := by decide +kernel
theorem dX4_correct_0 : decode cX4_correct 0 = .ok (.aload_n 0, 1) := by decide +kernel
theorem dX4_correct_1 : decode cX4_correct 1 = .ok (.iload_n 1, 1) := by decide +kernel
theorem dX4_correct_2 : decode cX4_correct 2 = .ok (.invokevirtual 66, 3) := by decide +kernel
theorem dX4_correct_5 : decode cX4_correct 5 = .ok (.iload_n 2, 1) := by decide +kernel
theorem dX4_correct_6 : decode cX4_correct 6 = .ok (.invokestatic 108, 3) := by decide +kernel
theorem dX4_correct_9 : decode cX4_correct 9 = .ok (.iload_n 3, 1) := by decide +kernel
theorem dX4_correct_10 : decode cX4_correct 10 = .ok (.iconst 0, 1) := by decide +kernel
theorem dX4_correct_11 : decode cX4_correct 11 = .ok (.sipush 5000, 3) := by decide +kernel
theorem dX4_correct_14 : decode cX4_correct 14 = .ok (.invokestatic 70, 3) := by decide +kernel
theorem dX4_correct_17 : decode cX4_correct 17 = .ok (.iload 4, 2) := by decide +kernel
theorem dX4_correct_19 : decode cX4_correct 19 = .ok (.iconst 0, 1) := by decide +kernel
theorem dX4_correct_20 : decode cX4_correct 20 = .ok (.sipush 5000, 3) := by decide +kernel
theorem dX4_correct_23 : decode cX4_correct 23 = .ok (.invokestatic 70, 3) := by decide +kernel
theorem dX4_correct_26 : decode cX4_correct 26 = .ok (.iload_n 2, 1) := by decide +kernel
theorem dX4_correct_27 : decode cX4_correct 27 = .ok (.aload_n 0, 1) := by decide +kernel
theorem dX4_correct_28 : decode cX4_correct 28 = .ok (.getfield 45, 3) := by decide +kernel
theorem dX4_correct_31 : decode cX4_correct 31 = .ok (.if_icmp .ge 11, 3) := by decide +kernel
theorem dX4_correct_34 : decode cX4_correct 34 = .ok (.iload_n 2, 1) := by decide +kernel
theorem dX4_correct_35 : decode cX4_correct 35 = .ok (.aload_n 0, 1) := by decide +kernel
theorem dX4_correct_36 : decode cX4_correct 36 = .ok (.getfield 154, 3) := by decide +kernel
theorem dX4_correct_39 : decode cX4_correct 39 = .ok (.if_icmp .ge 13, 3) := by decide +kernel
theorem dX4_correct_42 : decode cX4_correct 42 = .ok (.new 48, 3) := by decide +kernel
theorem dX4_correct_45 : decode cX4_correct 45 = .ok (.dup, 1) := by decide +kernel
theorem dX4_correct_46 : decode cX4_correct 46 = .ok (.ldc 157, 2) := by decide +kernel
theorem dX4_correct_48 : decode cX4_correct 48 = .ok (.invokespecial 52, 3) := by decide +kernel
theorem dX4_correct_51 : decode cX4_correct 51 = .ok (.athrow, 1) := by decide +kernel
theorem dX4_correct_52 : decode cX4_correct 52 = .ok (.aload_n 0, 1) := by decide +kernel
theorem dX4_correct_53 : decode cX4_correct 53 = .ok (.getfield 34, 3) := by decide +kernel
theorem dX4_correct_56 : decode cX4_correct 56 = .ok (.iload_n 1, 1) := by decide +kernel
theorem dX4_correct_57 : decode cX4_correct 57 = .ok (.invokestatic 159, 3) := by decide +kernel
theorem dX4_correct_60 : decode cX4_correct 60 = .ok (.lstore 5, 2) := by decide +kernel
theorem dX4_correct_62 : decode cX4_correct 62 = .ok (.aload_n 0, 1) := by decide +kernel
theorem dX4_correct_63 : decode cX4_correct 63 = .ok (.iload_n 2, 1) := by decide +kernel
theorem dX4_correct_64 : decode cX4_correct 64 = .ok (.invokevirtual 113, 3) := by decide +kernel
theorem dX4_correct_67 : decode cX4_correct 67 = .ok (.astore 7, 2) := by decide +kernel
theorem dX4_correct_69 : decode cX4_correct 69 = .ok (.aload 7, 2) := by decide +kernel
theorem dX4_correct_71 : decode cX4_correct 71 = .ok (.iload_n 1, 1) := by decide +kernel
theorem dX4_correct_72 : decode cX4_correct 72 = .ok (.iload_n 3, 1) := by decide +kernel
theorem dX4_correct_73 : decode cX4_correct 73 = .ok (.iload 4, 2) := by decide +kernel
theorem dX4_correct_75 : decode cX4_correct 75 = .ok (.invokevirtual 117, 3) := by decide +kernel
theorem dX4_correct_78 : decode cX4_correct 78 = .ok (.pop, 1) := by decide +kernel
theorem dX4_correct_79 : decode cX4_correct 79 = .ok (.aload 7, 2) := by decide +kernel
theorem dX4_correct_81 : decode cX4_correct 81 = .ok (.getfield 136, 3) := by decide +kernel
theorem dX4_correct_84 : decode cX4_correct 84 = .ok (.istore 8, 2) := by decide +kernel
theorem dX4_correct_86 : decode cX4_correct 86 = .ok (.iload_n 2, 1) := by decide +kernel
theorem dX4_correct_87 : decode cX4_correct 87 = .ok (.istore 9, 2) := by decide +kernel
theorem dX4_correct_89 : decode cX4_correct 89 = .ok (.iload 9, 2) := by decide +kernel
theorem dX4_correct_91 : decode cX4_correct 91 = .ok (.aload_n 0, 1) := by decide +kernel
theorem dX4_correct_92 : decode cX4_correct 92 = .ok (.getfield 45, 3) := by decide +kernel
theorem dX4_correct_95 : decode cX4_correct 95 = .ok (.if_icmp .ge 65, 3) := by decide +kernel
theorem dX4_correct_98 : decode cX4_correct 98 = .ok (.aload_n 0, 1) := by decide +kernel
theorem dX4_correct_99 : decode cX4_correct 99 = .ok (.iload 9, 2) := by decide +kernel
theorem dX4_correct_101 : decode cX4_correct 101 = .ok (.invokevirtual 113, 3) := by decide +kernel
theorem dX4_correct_104 : decode cX4_correct 104 = .ok (.astore 10, 2) := by decide +kernel
theorem dX4_correct_106 : decode cX4_correct 106 = .ok (.aload_n 0, 1) := by decide +kernel
theorem dX4_correct_107 : decode cX4_correct 107 = .ok (.aload 10, 2) := by decide +kernel
theorem dX4_correct_109 : decode cX4_correct 109 = .ok (.iconst (-1), 1) := by decide +kernel
theorem dX4_correct_110 : decode cX4_correct 110 = .ok (.invokevirtual 143, 3) := by decide +kernel
theorem dX4_correct_113 : decode cX4_correct 113 = .ok (.aload 10, 2) := by decide +kernel
theorem dX4_correct_115 : decode cX4_correct 115 = .ok (.iload 8, 2) := by decide +kernel
theorem dX4_correct_117 : decode cX4_correct 117 = .ok (.aload 10, 2) := by decide +kernel
theorem dX4_correct_119 : decode cX4_correct 119 = .ok (.getfield 129, 3) := by decide +kernel
theorem dX4_correct_122 : decode cX4_correct 122 = .ok (.getfield 90, 3) := by decide +kernel
theorem dX4_correct_125 : decode cX4_correct 125 = .ok (.invokestatic 102, 3) := by decide +kernel
theorem dX4_correct_128 : decode cX4_correct 128 = .ok (.putfield 136, 3) := by decide +kernel
theorem dX4_correct_131 : decode cX4_correct 131 = .ok (.aload_n 0, 1) := by decide +kernel
theorem dX4_correct_132 : decode cX4_correct 132 = .ok (.getfield 30, 3) := by decide +kernel
theorem dX4_correct_135 : decode cX4_correct 135 = .ok (.aload 10, 2) := by decide +kernel
theorem dX4_correct_137 : decode cX4_correct 137 = .ok (.invokevirtual 139, 3) := by decide +kernel
theorem dX4_correct_140 : decode cX4_correct 140 = .ok (.aload_n 0, 1) := by decide +kernel
theorem dX4_correct_141 : decode cX4_correct 141 = .ok (.aload 10, 2) := by decide +kernel
theorem dX4_correct_143 : decode cX4_correct 143 = .ok (.iconst 1, 1) := by decide +kernel
theorem dX4_correct_144 : decode cX4_correct 144 = .ok (.invokevirtual 143, 3) := by decide +kernel
theorem dX4_correct_147 : decode cX4_correct 147 = .ok (.aload 10, 2) := by decide +kernel
theorem dX4_correct_149 : decode cX4_correct 149 = .ok (.getfield 147, 3) := by decide +kernel
theorem dX4_correct_152 : decode cX4_correct 152 = .ok (.istore 8, 2) := by decide +kernel
theorem dX4_correct_154 : decode cX4_correct 154 = .ok (.iinc 9 1, 3) := by decide +kernel
theorem dX4_correct_157 : decode cX4_correct 157 = .ok (.goto (-68), 3) := by decide +kernel
theorem dX4_correct_160 : decode cX4_correct 160 = .ok (.aload_n 0, 1) := by decide +kernel
theorem dX4_correct_161 : decode cX4_correct 161 = .ok (.iload 8, 2) := by decide +kernel
theorem dX4_correct_163 : decode cX4_correct 163 = .ok (.aload_n 0, 1) := by decide +kernel
theorem dX4_correct_164 : decode cX4_correct 164 = .ok (.getfield 10, 3) := by decide +kernel
theorem dX4_correct_167 : decode cX4_correct 167 = .ok (.getfield 90, 3) := by decide +kernel
theorem dX4_correct_170 : decode cX4_correct 170 = .ok (.invokestatic 102, 3) := by decide +kernel
theorem dX4_correct_173 : decode cX4_correct 173 = .ok (.putfield 99, 3) := by decide +kernel
theorem dX4_correct_176 : decode cX4_correct 176 = .ok (.aload_n 0, 1) := by decide +kernel
theorem dX4_correct_177 : decode cX4_correct 177 = .ok (.dup, 1) := by decide +kernel
theorem dX4_correct_178 : decode cX4_correct 178 = .ok (.getfield 162, 3) := by decide +kernel
theorem dX4_correct_181 : decode cX4_correct 181 = .ok (.iconst 1, 1) := by decide +kernel
theorem dX4_correct_182 : decode cX4_correct 182 = .ok (.iadd, 1) := by decide +kernel
theorem dX4_correct_183 : decode cX4_correct 183 = .ok (.putfield 162, 3) := by decide +kernel
theorem dX4_correct_186 : decode cX4_correct 186 = .ok (.aload_n 0, 1) := by decide +kernel
theorem dX4_correct_187 : decode cX4_correct 187 = .ok (.getfield 34, 3) := by decide +kernel
theorem dX4_correct_190 : decode cX4_correct 190 = .ok (.iload_n 1, 1) := by decide +kernel
theorem dX4_correct_191 : decode cX4_correct 191 = .ok (.invokestatic 159, 3) := by decide +kernel
theorem dX4_correct_194 : decode cX4_correct 194 = .ok (.lload 5, 2) := by decide +kernel
theorem dX4_correct_196 : decode cX4_correct 196 = .ok (.lsub, 1) := by decide +kernel
theorem dX4_correct_197 : decode cX4_correct 197 = .ok (.lreturn, 1) := by decide +kernel
theorem dX4_flow_0 : decode cX4_flow 0 = .ok (.iload_n 1, 1) := by decide +kernel
theorem dX4_flow_1 : decode cX4_flow 1 = .ok (.invokestatic 108, 3) := by decide +kernel
theorem dX4_flow_4 : decode cX4_flow 4 = .ok (.aload_n 0, 1) := by decide +kernel
theorem dX4_flow_5 : decode cX4_flow 5 = .ok (.iload_n 2, 1) := by decide +kernel
theorem dX4_flow_6 : decode cX4_flow 6 = .ok (.invokevirtual 66, 3) := by decide +kernel
theorem dX4_flow_9 : decode cX4_flow 9 = .ok (.iload_n 3, 1) := by decide +kernel
theorem dX4_flow_10 : decode cX4_flow 10 = .ok (.bipush 8, 2) := by decide +kernel
theorem dX4_flow_12 : decode cX4_flow 12 = .ok (.invokestatic 165, 3) := by decide +kernel
theorem dX4_flow_15 : decode cX4_flow 15 = .ok (.iload_n 1, 1) := by decide +kernel
theorem dX4_flow_16 : decode cX4_flow 16 = .ok (.aload_n 0, 1) := by decide +kernel
theorem dX4_flow_17 : decode cX4_flow 17 = .ok (.getfield 45, 3) := by decide +kernel
theorem dX4_flow_20 : decode cX4_flow 20 = .ok (.if_icmp .ge 16, 3) := by decide +kernel
theorem dX4_flow_23 : decode cX4_flow 23 = .ok (.aload_n 0, 1) := by decide +kernel
theorem dX4_flow_24 : decode cX4_flow 24 = .ok (.iload_n 1, 1) := by decide +kernel
theorem dX4_flow_25 : decode cX4_flow 25 = .ok (.invokevirtual 113, 3) := by decide +kernel
theorem dX4_flow_28 : decode cX4_flow 28 = .ok (.iload_n 2, 1) := by decide +kernel
theorem dX4_flow_29 : decode cX4_flow 29 = .ok (.iload_n 3, 1) := by decide +kernel
theorem dX4_flow_30 : decode cX4_flow 30 = .ok (.invokevirtual 169, 3) := by decide +kernel
theorem dX4_flow_33 : decode cX4_flow 33 = .ok (.goto 4, 3) := by decide +kernel
theorem dX4_flow_36 : decode cX4_flow 36 = .ok (.iconst 0, 1) := by decide +kernel
theorem dX4_flow_37 : decode cX4_flow 37 = .ok (.ireturn, 1) := by decide +kernel
theorem dX4_independence_0 : decode cX4_independence 0 = .ok (.iconst 0, 1) := by decide +kernel
theorem dX4_independence_1 : decode cX4_independence 1 = .ok (.istore_n 1, 1) := by decide +kernel
theorem dX4_independence_2 : decode cX4_independence 2 = .ok (.iconst 0, 1) := by decide +kernel
theorem dX4_independence_3 : decode cX4_independence 3 = .ok (.istore_n 2, 1) := by decide +kernel
theorem dX4_independence_4 : decode cX4_independence 4 = .ok (.iconst 0, 1) := by decide +kernel
theorem dX4_independence_5 : decode cX4_independence 5 = .ok (.istore_n 3, 1) := by decide +kernel
theorem dX4_independence_6 : decode cX4_independence 6 = .ok (.iload_n 3, 1) := by decide +kernel
theorem dX4_independence_7 : decode cX4_independence 7 = .ok (.aload_n 0, 1) := by decide +kernel
theorem dX4_independence_8 : decode cX4_independence 8 = .ok (.getfield 45, 3) := by decide +kernel
theorem dX4_independence_11 : decode cX4_independence 11 = .ok (.if_icmp .ge 33, 3) := by decide +kernel
theorem dX4_independence_14 : decode cX4_independence 14 = .ok (.aload_n 0, 1) := by decide +kernel
theorem dX4_independence_15 : decode cX4_independence 15 = .ok (.iload_n 3, 1) := by decide +kernel
theorem dX4_independence_16 : decode cX4_independence 16 = .ok (.invokevirtual 113, 3) := by decide +kernel
theorem dX4_independence_19 : decode cX4_independence 19 = .ok (.astore 4, 2) := by decide +kernel
theorem dX4_independence_21 : decode cX4_independence 21 = .ok (.iload_n 1, 1) := by decide +kernel
theorem dX4_independence_22 : decode cX4_independence 22 = .ok (.aload 4, 2) := by decide +kernel
theorem dX4_independence_24 : decode cX4_independence 24 = .ok (.invokevirtual 203, 3) := by decide +kernel
theorem dX4_independence_27 : decode cX4_independence 27 = .ok (.iadd, 1) := by decide +kernel
theorem dX4_independence_28 : decode cX4_independence 28 = .ok (.istore_n 1, 1) := by decide +kernel
theorem dX4_independence_29 : decode cX4_independence 29 = .ok (.iload_n 2, 1) := by decide +kernel
theorem dX4_independence_30 : decode cX4_independence 30 = .ok (.aload 4, 2) := by decide +kernel
theorem dX4_independence_32 : decode cX4_independence 32 = .ok (.iconst 3, 1) := by decide +kernel
theorem dX4_independence_33 : decode cX4_independence 33 = .ok (.invokevirtual 150, 3) := by decide +kernel
theorem dX4_independence_36 : decode cX4_independence 36 = .ok (.iadd, 1) := by decide +kernel
theorem dX4_independence_37 : decode cX4_independence 37 = .ok (.istore_n 2, 1) := by decide +kernel
theorem dX4_independence_38 : decode cX4_independence 38 = .ok (.iinc 3 1, 3) := by decide +kernel
theorem dX4_independence_41 : decode cX4_independence 41 = .ok (.goto (-35), 3) := by decide +kernel
theorem dX4_independence_44 : decode cX4_independence 44 = .ok (.iload_n 1, 1) := by decide +kernel
theorem dX4_independence_45 : decode cX4_independence 45 = .ok (.ifCond .ne 7, 3) := by decide +kernel
theorem dX4_independence_48 : decode cX4_independence 48 = .ok (.dconst 1, 1) := by decide +kernel
theorem dX4_independence_49 : decode cX4_independence 49 = .ok (.goto 10, 3) := by decide +kernel
theorem dX4_independence_52 : decode cX4_independence 52 = .ok (.iload_n 1, 1) := by decide +kernel
theorem dX4_independence_53 : decode cX4_independence 53 = .ok (.iload_n 2, 1) := by decide +kernel
theorem dX4_independence_54 : decode cX4_independence 54 = .ok (.isub, 1) := by decide +kernel
theorem dX4_independence_55 : decode cX4_independence 55 = .ok (.i2d, 1) := by decide +kernel
theorem dX4_independence_56 : decode cX4_independence 56 = .ok (.iload_n 1, 1) := by decide +kernel
theorem dX4_independence_57 : decode cX4_independence 57 = .ok (.i2d, 1) := by decide +kernel
theorem dX4_independence_58 : decode cX4_independence 58 = .ok (.ddiv, 1) := by decide +kernel
theorem dX4_independence_59 : decode cX4_independence 59 = .ok (.dreturn, 1) := by decide +kernel
theorem dX4_init_0 : decode cX4_init 0 = .ok (.aload_n 0, 1) := by decide +kernel
theorem dX4_init_1 : decode cX4_init 1 = .ok (.invokespecial 1, 3) := by decide +kernel
theorem dX4_init_4 : decode cX4_init 4 = .ok (.aload_n 0, 1) := by decide +kernel
theorem dX4_init_5 : decode cX4_init 5 = .ok (.new 7, 3) := by decide +kernel
theorem dX4_init_8 : decode cX4_init 8 = .ok (.dup, 1) := by decide +kernel
theorem dX4_init_9 : decode cX4_init 9 = .ok (.invokespecial 9, 3) := by decide +kernel
theorem dX4_init_12 : decode cX4_init 12 = .ok (.putfield 10, 3) := by decide +kernel
theorem dX4_init_15 : decode cX4_init 15 = .ok (.aload_n 0, 1) := by decide +kernel
theorem dX4_init_16 : decode cX4_init 16 = .ok (.bipush 48, 2) := by decide +kernel
theorem dX4_init_18 : decode cX4_init 18 = .ok (.anewarray 16, 3) := by decide +kernel
theorem dX4_init_21 : decode cX4_init 21 = .ok (.putfield 18, 3) := by decide +kernel
theorem dX4_init_24 : decode cX4_init 24 = .ok (.aload_n 0, 1) := by decide +kernel
theorem dX4_init_25 : decode cX4_init 25 = .ok (.new 16, 3) := by decide +kernel
theorem dX4_init_28 : decode cX4_init 28 = .ok (.dup, 1) := by decide +kernel
theorem dX4_init_29 : decode cX4_init 29 = .ok (.invokespecial 22, 3) := by decide +kernel
theorem dX4_init_32 : decode cX4_init 32 = .ok (.putfield 23, 3) := by decide +kernel
theorem dX4_init_35 : decode cX4_init 35 = .ok (.aload_n 0, 1) := by decide +kernel
theorem dX4_init_36 : decode cX4_init 36 = .ok (.new 27, 3) := by decide +kernel
theorem dX4_init_39 : decode cX4_init 39 = .ok (.dup, 1) := by decide +kernel
theorem dX4_init_40 : decode cX4_init 40 = .ok (.invokespecial 29, 3) := by decide +kernel
theorem dX4_init_43 : decode cX4_init 43 = .ok (.putfield 30, 3) := by decide +kernel
theorem dX4_init_46 : decode cX4_init 46 = .ok (.aload_n 0, 1) := by decide +kernel
theorem dX4_init_47 : decode cX4_init 47 = .ok (.bipush 6, 2) := by decide +kernel
theorem dX4_init_49 : decode cX4_init 49 = .ok (.newarray .long, 2) := by decide +kernel
theorem dX4_init_51 : decode cX4_init 51 = .ok (.putfield 34, 3) := by decide +kernel
theorem dX4_init_54 : decode cX4_init 54 = .ok (.aload_n 0, 1) := by decide +kernel
theorem dX4_init_55 : decode cX4_init 55 = .ok (.bipush 6, 2) := by decide +kernel
theorem dX4_init_57 : decode cX4_init 57 = .ok (.newarray .long, 2) := by decide +kernel
theorem dX4_init_59 : decode cX4_init 59 = .ok (.putfield 38, 3) := by decide +kernel
theorem dX4_init_62 : decode cX4_init 62 = .ok (.iconst 0, 1) := by decide +kernel
theorem dX4_init_63 : decode cX4_init 63 = .ok (.istore_n 1, 1) := by decide +kernel
theorem dX4_init_64 : decode cX4_init 64 = .ok (.iload_n 1, 1) := by decide +kernel
theorem dX4_init_65 : decode cX4_init 65 = .ok (.aload_n 0, 1) := by decide +kernel
theorem dX4_init_66 : decode cX4_init 66 = .ok (.getfield 18, 3) := by decide +kernel
theorem dX4_init_69 : decode cX4_init 69 = .ok (.arraylength, 1) := by decide +kernel
theorem dX4_init_70 : decode cX4_init 70 = .ok (.if_icmp .ge 22, 3) := by decide +kernel
theorem dX4_init_73 : decode cX4_init 73 = .ok (.aload_n 0, 1) := by decide +kernel
theorem dX4_init_74 : decode cX4_init 74 = .ok (.getfield 18, 3) := by decide +kernel
theorem dX4_init_77 : decode cX4_init 77 = .ok (.iload_n 1, 1) := by decide +kernel
theorem dX4_init_78 : decode cX4_init 78 = .ok (.new 16, 3) := by decide +kernel
theorem dX4_init_81 : decode cX4_init 81 = .ok (.dup, 1) := by decide +kernel
theorem dX4_init_82 : decode cX4_init 82 = .ok (.invokespecial 22, 3) := by decide +kernel
theorem dX4_init_85 : decode cX4_init 85 = .ok (.aastore, 1) := by decide +kernel
theorem dX4_init_86 : decode cX4_init 86 = .ok (.iinc 1 1, 3) := by decide +kernel
theorem dX4_init_89 : decode cX4_init 89 = .ok (.goto (-25), 3) := by decide +kernel
theorem dX4_init_92 : decode cX4_init 92 = .ok (.return_, 1) := by decide +kernel
theorem dX4_meter_0 : decode cX4_meter 0 = .ok (.aload_n 0, 1) := by decide +kernel
theorem dX4_meter_1 : decode cX4_meter 1 = .ok (.iload_n 1, 1) := by decide +kernel
theorem dX4_meter_2 : decode cX4_meter 2 = .ok (.invokevirtual 66, 3) := by decide +kernel
theorem dX4_meter_5 : decode cX4_meter 5 = .ok (.iload_n 2, 1) := by decide +kernel
theorem dX4_meter_6 : decode cX4_meter 6 = .ok (.invokestatic 108, 3) := by decide +kernel
theorem dX4_meter_9 : decode cX4_meter 9 = .ok (.iload_n 3, 1) := by decide +kernel
theorem dX4_meter_10 : decode cX4_meter 10 = .ok (.iconst 0, 1) := by decide +kernel
theorem dX4_meter_11 : decode cX4_meter 11 = .ok (.sipush 5000, 3) := by decide +kernel
theorem dX4_meter_14 : decode cX4_meter 14 = .ok (.invokestatic 70, 3) := by decide +kernel
theorem dX4_meter_17 : decode cX4_meter 17 = .ok (.iload 4, 2) := by decide +kernel
theorem dX4_meter_19 : decode cX4_meter 19 = .ok (.iconst 0, 1) := by decide +kernel
theorem dX4_meter_20 : decode cX4_meter 20 = .ok (.sipush 5000, 3) := by decide +kernel
theorem dX4_meter_23 : decode cX4_meter 23 = .ok (.invokestatic 70, 3) := by decide +kernel
theorem dX4_meter_26 : decode cX4_meter 26 = .ok (.iload_n 2, 1) := by decide +kernel
theorem dX4_meter_27 : decode cX4_meter 27 = .ok (.aload_n 0, 1) := by decide +kernel
theorem dX4_meter_28 : decode cX4_meter 28 = .ok (.getfield 45, 3) := by decide +kernel
theorem dX4_meter_31 : decode cX4_meter 31 = .ok (.if_icmp .ge 13, 3) := by decide +kernel
theorem dX4_meter_34 : decode cX4_meter 34 = .ok (.new 48, 3) := by decide +kernel
theorem dX4_meter_37 : decode cX4_meter 37 = .ok (.dup, 1) := by decide +kernel
theorem dX4_meter_38 : decode cX4_meter 38 = .ok (.ldc 111, 2) := by decide +kernel
theorem dX4_meter_40 : decode cX4_meter 40 = .ok (.invokespecial 52, 3) := by decide +kernel
theorem dX4_meter_43 : decode cX4_meter 43 = .ok (.athrow, 1) := by decide +kernel
theorem dX4_meter_44 : decode cX4_meter 44 = .ok (.aload_n 0, 1) := by decide +kernel
theorem dX4_meter_45 : decode cX4_meter 45 = .ok (.iload_n 2, 1) := by decide +kernel
theorem dX4_meter_46 : decode cX4_meter 46 = .ok (.invokevirtual 113, 3) := by decide +kernel
theorem dX4_meter_49 : decode cX4_meter 49 = .ok (.iload_n 1, 1) := by decide +kernel
theorem dX4_meter_50 : decode cX4_meter 50 = .ok (.iload_n 3, 1) := by decide +kernel
theorem dX4_meter_51 : decode cX4_meter 51 = .ok (.iload 4, 2) := by decide +kernel
theorem dX4_meter_53 : decode cX4_meter 53 = .ok (.invokevirtual 117, 3) := by decide +kernel
theorem dX4_meter_56 : decode cX4_meter 56 = .ok (.ireturn, 1) := by decide +kernel
theorem dX4_present_0 : decode cX4_present 0 = .ok (.aload_n 0, 1) := by decide +kernel
theorem dX4_present_1 : decode cX4_present 1 = .ok (.getfield 45, 3) := by decide +kernel
theorem dX4_present_4 : decode cX4_present 4 = .ok (.ireturn, 1) := by decide +kernel
theorem dX4_put_0 : decode cX4_put 0 = .ok (.aload_n 0, 1) := by decide +kernel
theorem dX4_put_1 : decode cX4_put 1 = .ok (.ifnull 17, 3) := by decide +kernel
theorem dX4_put_4 : decode cX4_put 4 = .ok (.iload_n 1, 1) := by decide +kernel
theorem dX4_put_5 : decode cX4_put 5 = .ok (.ifCond .lt 13, 3) := by decide +kernel
theorem dX4_put_8 : decode cX4_put 8 = .ok (.iload_n 1, 1) := by decide +kernel
theorem dX4_put_9 : decode cX4_put 9 = .ok (.aload_n 0, 1) := by decide +kernel
theorem dX4_put_10 : decode cX4_put 10 = .ok (.arraylength, 1) := by decide +kernel
theorem dX4_put_11 : decode cX4_put 11 = .ok (.if_icmp .ge 7, 3) := by decide +kernel
theorem dX4_put_14 : decode cX4_put 14 = .ok (.aload_n 0, 1) := by decide +kernel
theorem dX4_put_15 : decode cX4_put 15 = .ok (.iload_n 1, 1) := by decide +kernel
theorem dX4_put_16 : decode cX4_put 16 = .ok (.iload_n 2, 1) := by decide +kernel
theorem dX4_put_17 : decode cX4_put 17 = .ok (.iastore, 1) := by decide +kernel
theorem dX4_put_18 : decode cX4_put 18 = .ok (.return_, 1) := by decide +kernel
theorem dX4_put__0 : decode cX4_put_ 0 = .ok (.aload_n 0, 1) := by decide +kernel
theorem dX4_put__1 : decode cX4_put_ 1 = .ok (.ifnull 17, 3) := by decide +kernel
theorem dX4_put__4 : decode cX4_put_ 4 = .ok (.iload_n 1, 1) := by decide +kernel
theorem dX4_put__5 : decode cX4_put_ 5 = .ok (.ifCond .lt 13, 3) := by decide +kernel
theorem dX4_put__8 : decode cX4_put_ 8 = .ok (.iload_n 1, 1) := by decide +kernel
theorem dX4_put__9 : decode cX4_put_ 9 = .ok (.aload_n 0, 1) := by decide +kernel
theorem dX4_put__10 : decode cX4_put_ 10 = .ok (.arraylength, 1) := by decide +kernel
theorem dX4_put__11 : decode cX4_put_ 11 = .ok (.if_icmp .ge 7, 3) := by decide +kernel
theorem dX4_put__14 : decode cX4_put_ 14 = .ok (.aload_n 0, 1) := by decide +kernel
theorem dX4_put__15 : decode cX4_put_ 15 = .ok (.iload_n 1, 1) := by decide +kernel
theorem dX4_put__16 : decode cX4_put_ 16 = .ok (.lload_n 2, 1) := by decide +kernel
theorem dX4_put__17 : decode cX4_put_ 17 = .ok (.lastore, 1) := by decide +kernel
theorem dX4_put__18 : decode cX4_put_ 18 = .ok (.return_, 1) := by decide +kernel
theorem dX4_reading_0 : decode cX4_reading 0 = .ok (.aload_n 0, 1) := by decide +kernel
theorem dX4_reading_1 : decode cX4_reading 1 = .ok (.iload_n 1, 1) := by decide +kernel
theorem dX4_reading_2 : decode cX4_reading 2 = .ok (.invokevirtual 66, 3) := by decide +kernel
theorem dX4_reading_5 : decode cX4_reading 5 = .ok (.iload_n 2, 1) := by decide +kernel
theorem dX4_reading_6 : decode cX4_reading 6 = .ok (.invokestatic 108, 3) := by decide +kernel
theorem dX4_reading_9 : decode cX4_reading 9 = .ok (.aload_n 0, 1) := by decide +kernel
theorem dX4_reading_10 : decode cX4_reading 10 = .ok (.iload_n 2, 1) := by decide +kernel
theorem dX4_reading_11 : decode cX4_reading 11 = .ok (.invokevirtual 113, 3) := by decide +kernel
theorem dX4_reading_14 : decode cX4_reading 14 = .ok (.astore 4, 2) := by decide +kernel
theorem dX4_reading_16 : decode cX4_reading 16 = .ok (.iload_n 3, 1) := by decide +kernel
theorem dX4_reading_17 : decode cX4_reading 17 = .ok (.ifCond .eq 11, 3) := by decide +kernel
theorem dX4_reading_20 : decode cX4_reading 20 = .ok (.aload 4, 2) := by decide +kernel
theorem dX4_reading_22 : decode cX4_reading 22 = .ok (.getfield 121, 3) := by decide +kernel
theorem dX4_reading_25 : decode cX4_reading 25 = .ok (.goto 8, 3) := by decide +kernel
theorem dX4_reading_28 : decode cX4_reading 28 = .ok (.aload 4, 2) := by decide +kernel
theorem dX4_reading_30 : decode cX4_reading 30 = .ok (.getfield 124, 3) := by decide +kernel
theorem dX4_reading_33 : decode cX4_reading 33 = .ok (.iload_n 1, 1) := by decide +kernel
theorem dX4_reading_34 : decode cX4_reading 34 = .ok (.invokestatic 74, 3) := by decide +kernel
theorem dX4_reading_37 : decode cX4_reading 37 = .ok (.ireturn, 1) := by decide +kernel
theorem dX4_setBattery_0 : decode cX4_setBattery 0 = .ok (.iload_n 1, 1) := by decide +kernel
theorem dX4_setBattery_1 : decode cX4_setBattery 1 = .ok (.iconst 0, 1) := by decide +kernel
theorem dX4_setBattery_2 : decode cX4_setBattery 2 = .ok (.sipush 20000, 3) := by decide +kernel
theorem dX4_setBattery_5 : decode cX4_setBattery 5 = .ok (.invokestatic 70, 3) := by decide +kernel
theorem dX4_setBattery_8 : decode cX4_setBattery 8 = .ok (.iload_n 2, 1) := by decide +kernel
theorem dX4_setBattery_9 : decode cX4_setBattery 9 = .ok (.iconst 0, 1) := by decide +kernel
theorem dX4_setBattery_10 : decode cX4_setBattery 10 = .ok (.sipush 5000, 3) := by decide +kernel
theorem dX4_setBattery_13 : decode cX4_setBattery 13 = .ok (.invokestatic 70, 3) := by decide +kernel
theorem dX4_setBattery_16 : decode cX4_setBattery 16 = .ok (.iload_n 3, 1) := by decide +kernel
theorem dX4_setBattery_17 : decode cX4_setBattery 17 = .ok (.iconst 1, 1) := by decide +kernel
theorem dX4_setBattery_18 : decode cX4_setBattery 18 = .ok (.bipush 100, 2) := by decide +kernel
theorem dX4_setBattery_20 : decode cX4_setBattery 20 = .ok (.invokestatic 70, 3) := by decide +kernel
theorem dX4_setBattery_23 : decode cX4_setBattery 23 = .ok (.aload_n 0, 1) := by decide +kernel
theorem dX4_setBattery_24 : decode cX4_setBattery 24 = .ok (.getfield 10, 3) := by decide +kernel
theorem dX4_setBattery_27 : decode cX4_setBattery 27 = .ok (.iload_n 1, 1) := by decide +kernel
theorem dX4_setBattery_28 : decode cX4_setBattery 28 = .ok (.putfield 90, 3) := by decide +kernel
theorem dX4_setBattery_31 : decode cX4_setBattery 31 = .ok (.aload_n 0, 1) := by decide +kernel
theorem dX4_setBattery_32 : decode cX4_setBattery 32 = .ok (.getfield 10, 3) := by decide +kernel
theorem dX4_setBattery_35 : decode cX4_setBattery 35 = .ok (.iload_n 2, 1) := by decide +kernel
theorem dX4_setBattery_36 : decode cX4_setBattery 36 = .ok (.putfield 93, 3) := by decide +kernel
theorem dX4_setBattery_39 : decode cX4_setBattery 39 = .ok (.aload_n 0, 1) := by decide +kernel
theorem dX4_setBattery_40 : decode cX4_setBattery 40 = .ok (.getfield 10, 3) := by decide +kernel
theorem dX4_setBattery_43 : decode cX4_setBattery 43 = .ok (.iload_n 3, 1) := by decide +kernel
theorem dX4_setBattery_44 : decode cX4_setBattery 44 = .ok (.putfield 96, 3) := by decide +kernel
theorem dX4_setBattery_47 : decode cX4_setBattery 47 = .ok (.aload_n 0, 1) := by decide +kernel
theorem dX4_setBattery_48 : decode cX4_setBattery 48 = .ok (.getfield 99, 3) := by decide +kernel
theorem dX4_setBattery_51 : decode cX4_setBattery 51 = .ok (.istore 4, 2) := by decide +kernel
theorem dX4_setBattery_53 : decode cX4_setBattery 53 = .ok (.aload_n 0, 1) := by decide +kernel
theorem dX4_setBattery_54 : decode cX4_setBattery 54 = .ok (.iload 4, 2) := by decide +kernel
theorem dX4_setBattery_56 : decode cX4_setBattery 56 = .ok (.iload_n 1, 1) := by decide +kernel
theorem dX4_setBattery_57 : decode cX4_setBattery 57 = .ok (.invokestatic 102, 3) := by decide +kernel
theorem dX4_setBattery_60 : decode cX4_setBattery 60 = .ok (.putfield 99, 3) := by decide +kernel
theorem dX4_setBattery_63 : decode cX4_setBattery 63 = .ok (.iload 4, 2) := by decide +kernel
theorem dX4_setBattery_65 : decode cX4_setBattery 65 = .ok (.aload_n 0, 1) := by decide +kernel
theorem dX4_setBattery_66 : decode cX4_setBattery 66 = .ok (.getfield 99, 3) := by decide +kernel
theorem dX4_setBattery_69 : decode cX4_setBattery 69 = .ok (.isub, 1) := by decide +kernel
theorem dX4_setBattery_70 : decode cX4_setBattery 70 = .ok (.ireturn, 1) := by decide +kernel
theorem dX4_setMember_0 : decode cX4_setMember 0 = .ok (.aload_n 0, 1) := by decide +kernel
theorem dX4_setMember_1 : decode cX4_setMember 1 = .ok (.iload_n 1, 1) := by decide +kernel
theorem dX4_setMember_2 : decode cX4_setMember 2 = .ok (.invokevirtual 66, 3) := by decide +kernel
theorem dX4_setMember_5 : decode cX4_setMember 5 = .ok (.iload_n 2, 1) := by decide +kernel
theorem dX4_setMember_6 : decode cX4_setMember 6 = .ok (.iconst 0, 1) := by decide +kernel
theorem dX4_setMember_7 : decode cX4_setMember 7 = .ok (.bipush 100, 2) := by decide +kernel
theorem dX4_setMember_9 : decode cX4_setMember 9 = .ok (.invokestatic 70, 3) := by decide +kernel
theorem dX4_setMember_12 : decode cX4_setMember 12 = .ok (.iload_n 3, 1) := by decide +kernel
theorem dX4_setMember_13 : decode cX4_setMember 13 = .ok (.iconst 0, 1) := by decide +kernel
theorem dX4_setMember_14 : decode cX4_setMember 14 = .ok (.bipush 99, 2) := by decide +kernel
theorem dX4_setMember_16 : decode cX4_setMember 16 = .ok (.invokestatic 70, 3) := by decide +kernel
theorem dX4_setMember_19 : decode cX4_setMember 19 = .ok (.aload_n 0, 1) := by decide +kernel
theorem dX4_setMember_20 : decode cX4_setMember 20 = .ok (.getfield 10, 3) := by decide +kernel
theorem dX4_setMember_23 : decode cX4_setMember 23 = .ok (.getfield 55, 3) := by decide +kernel
theorem dX4_setMember_26 : decode cX4_setMember 26 = .ok (.iload_n 1, 1) := by decide +kernel
theorem dX4_setMember_27 : decode cX4_setMember 27 = .ok (.invokestatic 74, 3) := by decide +kernel
theorem dX4_setMember_30 : decode cX4_setMember 30 = .ok (.istore 4, 2) := by decide +kernel
theorem dX4_setMember_32 : decode cX4_setMember 32 = .ok (.aload_n 0, 1) := by decide +kernel
theorem dX4_setMember_33 : decode cX4_setMember 33 = .ok (.getfield 10, 3) := by decide +kernel
theorem dX4_setMember_36 : decode cX4_setMember 36 = .ok (.getfield 55, 3) := by decide +kernel
theorem dX4_setMember_39 : decode cX4_setMember 39 = .ok (.iload_n 1, 1) := by decide +kernel
theorem dX4_setMember_40 : decode cX4_setMember 40 = .ok (.iload_n 2, 1) := by decide +kernel
theorem dX4_setMember_41 : decode cX4_setMember 41 = .ok (.invokestatic 59, 3) := by decide +kernel
theorem dX4_setMember_44 : decode cX4_setMember 44 = .ok (.aload_n 0, 1) := by decide +kernel
theorem dX4_setMember_45 : decode cX4_setMember 45 = .ok (.getfield 10, 3) := by decide +kernel
theorem dX4_setMember_48 : decode cX4_setMember 48 = .ok (.getfield 63, 3) := by decide +kernel
theorem dX4_setMember_51 : decode cX4_setMember 51 = .ok (.iload_n 1, 1) := by decide +kernel
theorem dX4_setMember_52 : decode cX4_setMember 52 = .ok (.iload_n 3, 1) := by decide +kernel
theorem dX4_setMember_53 : decode cX4_setMember 53 = .ok (.invokestatic 59, 3) := by decide +kernel
theorem dX4_setMember_56 : decode cX4_setMember 56 = .ok (.iload 4, 2) := by decide +kernel
theorem dX4_setMember_58 : decode cX4_setMember 58 = .ok (.ireturn, 1) := by decide +kernel
theorem dX4_setPrices_0 : decode cX4_setPrices 0 = .ok (.iload_n 1, 1) := by decide +kernel
theorem dX4_setPrices_1 : decode cX4_setPrices 1 = .ok (.iconst 0, 1) := by decide +kernel
theorem dX4_setPrices_2 : decode cX4_setPrices 2 = .ok (.bipush 100, 2) := by decide +kernel
theorem dX4_setPrices_4 : decode cX4_setPrices 4 = .ok (.invokestatic 70, 3) := by decide +kernel
theorem dX4_setPrices_7 : decode cX4_setPrices 7 = .ok (.iload_n 2, 1) := by decide +kernel
theorem dX4_setPrices_8 : decode cX4_setPrices 8 = .ok (.iconst 0, 1) := by decide +kernel
theorem dX4_setPrices_9 : decode cX4_setPrices 9 = .ok (.bipush 100, 2) := by decide +kernel
theorem dX4_setPrices_11 : decode cX4_setPrices 11 = .ok (.invokestatic 70, 3) := by decide +kernel
theorem dX4_setPrices_14 : decode cX4_setPrices 14 = .ok (.iload_n 3, 1) := by decide +kernel
theorem dX4_setPrices_15 : decode cX4_setPrices 15 = .ok (.iconst 0, 1) := by decide +kernel
theorem dX4_setPrices_16 : decode cX4_setPrices 16 = .ok (.bipush 100, 2) := by decide +kernel
theorem dX4_setPrices_18 : decode cX4_setPrices 18 = .ok (.invokestatic 70, 3) := by decide +kernel
theorem dX4_setPrices_21 : decode cX4_setPrices 21 = .ok (.aload_n 0, 1) := by decide +kernel
theorem dX4_setPrices_22 : decode cX4_setPrices 22 = .ok (.getfield 10, 3) := by decide +kernel
theorem dX4_setPrices_25 : decode cX4_setPrices 25 = .ok (.getfield 81, 3) := by decide +kernel
theorem dX4_setPrices_28 : decode cX4_setPrices 28 = .ok (.istore 4, 2) := by decide +kernel
theorem dX4_setPrices_30 : decode cX4_setPrices 30 = .ok (.aload_n 0, 1) := by decide +kernel
theorem dX4_setPrices_31 : decode cX4_setPrices 31 = .ok (.getfield 10, 3) := by decide +kernel
theorem dX4_setPrices_34 : decode cX4_setPrices 34 = .ok (.iload_n 1, 1) := by decide +kernel
theorem dX4_setPrices_35 : decode cX4_setPrices 35 = .ok (.putfield 84, 3) := by decide +kernel
theorem dX4_setPrices_38 : decode cX4_setPrices 38 = .ok (.aload_n 0, 1) := by decide +kernel
theorem dX4_setPrices_39 : decode cX4_setPrices 39 = .ok (.getfield 10, 3) := by decide +kernel
theorem dX4_setPrices_42 : decode cX4_setPrices 42 = .ok (.iload_n 2, 1) := by decide +kernel
theorem dX4_setPrices_43 : decode cX4_setPrices 43 = .ok (.putfield 87, 3) := by decide +kernel
theorem dX4_setPrices_46 : decode cX4_setPrices 46 = .ok (.aload_n 0, 1) := by decide +kernel
theorem dX4_setPrices_47 : decode cX4_setPrices 47 = .ok (.getfield 10, 3) := by decide +kernel
theorem dX4_setPrices_50 : decode cX4_setPrices 50 = .ok (.iload_n 3, 1) := by decide +kernel
theorem dX4_setPrices_51 : decode cX4_setPrices 51 = .ok (.putfield 81, 3) := by decide +kernel
theorem dX4_setPrices_54 : decode cX4_setPrices 54 = .ok (.iload 4, 2) := by decide +kernel
theorem dX4_setPrices_56 : decode cX4_setPrices 56 = .ok (.ireturn, 1) := by decide +kernel
theorem dX4_setRule_0 : decode cX4_setRule 0 = .ok (.iload_n 1, 1) := by decide +kernel
theorem dX4_setRule_1 : decode cX4_setRule 1 = .ok (.iconst 0, 1) := by decide +kernel
theorem dX4_setRule_2 : decode cX4_setRule 2 = .ok (.iconst 3, 1) := by decide +kernel
theorem dX4_setRule_3 : decode cX4_setRule 3 = .ok (.invokestatic 70, 3) := by decide +kernel
theorem dX4_setRule_6 : decode cX4_setRule 6 = .ok (.aload_n 0, 1) := by decide +kernel
theorem dX4_setRule_7 : decode cX4_setRule 7 = .ok (.getfield 10, 3) := by decide +kernel
theorem dX4_setRule_10 : decode cX4_setRule 10 = .ok (.getfield 78, 3) := by decide +kernel
theorem dX4_setRule_13 : decode cX4_setRule 13 = .ok (.istore_n 2, 1) := by decide +kernel
theorem dX4_setRule_14 : decode cX4_setRule 14 = .ok (.aload_n 0, 1) := by decide +kernel
theorem dX4_setRule_15 : decode cX4_setRule 15 = .ok (.getfield 10, 3) := by decide +kernel
theorem dX4_setRule_18 : decode cX4_setRule 18 = .ok (.iload_n 1, 1) := by decide +kernel
theorem dX4_setRule_19 : decode cX4_setRule 19 = .ok (.putfield 78, 3) := by decide +kernel
theorem dX4_setRule_22 : decode cX4_setRule 22 = .ok (.iload_n 2, 1) := by decide +kernel
theorem dX4_setRule_23 : decode cX4_setRule 23 = .ok (.ireturn, 1) := by decide +kernel
theorem dX4_slotAt_0 : decode cX4_slotAt 0 = .ok (.iload_n 1, 1) := by decide +kernel
theorem dX4_slotAt_1 : decode cX4_slotAt 1 = .ok (.ifCond .lt 21, 3) := by decide +kernel
theorem dX4_slotAt_4 : decode cX4_slotAt 4 = .ok (.iload_n 1, 1) := by decide +kernel
theorem dX4_slotAt_5 : decode cX4_slotAt 5 = .ok (.aload_n 0, 1) := by decide +kernel
theorem dX4_slotAt_6 : decode cX4_slotAt 6 = .ok (.getfield 18, 3) := by decide +kernel
theorem dX4_slotAt_9 : decode cX4_slotAt 9 = .ok (.arraylength, 1) := by decide +kernel
theorem dX4_slotAt_10 : decode cX4_slotAt 10 = .ok (.if_icmp .ge 12, 3) := by decide +kernel
theorem dX4_slotAt_13 : decode cX4_slotAt 13 = .ok (.aload_n 0, 1) := by decide +kernel
theorem dX4_slotAt_14 : decode cX4_slotAt 14 = .ok (.getfield 18, 3) := by decide +kernel
theorem dX4_slotAt_17 : decode cX4_slotAt 17 = .ok (.iload_n 1, 1) := by decide +kernel
theorem dX4_slotAt_18 : decode cX4_slotAt 18 = .ok (.aaload, 1) := by decide +kernel
theorem dX4_slotAt_19 : decode cX4_slotAt 19 = .ok (.goto 4, 3) := by decide +kernel
theorem dX4_slotAt_22 : decode cX4_slotAt 22 = .ok (.aconst_null, 1) := by decide +kernel
theorem dX4_slotAt_23 : decode cX4_slotAt 23 = .ok (.astore_n 2, 1) := by decide +kernel
theorem dX4_slotAt_24 : decode cX4_slotAt 24 = .ok (.aload_n 2, 1) := by decide +kernel
theorem dX4_slotAt_25 : decode cX4_slotAt 25 = .ok (.ifnull 7, 3) := by decide +kernel
theorem dX4_slotAt_28 : decode cX4_slotAt 28 = .ok (.aload_n 2, 1) := by decide +kernel
theorem dX4_slotAt_29 : decode cX4_slotAt 29 = .ok (.goto 7, 3) := by decide +kernel
theorem dX4_slotAt_32 : decode cX4_slotAt 32 = .ok (.aload_n 0, 1) := by decide +kernel
theorem dX4_slotAt_33 : decode cX4_slotAt 33 = .ok (.getfield 23, 3) := by decide +kernel
theorem dX4_slotAt_36 : decode cX4_slotAt 36 = .ok (.areturn, 1) := by decide +kernel
