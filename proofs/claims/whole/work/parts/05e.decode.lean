theorem dX5_would_0 : decode cX5_would 0 = .ok (.aload_n 0, 1) := by decide +kernel
theorem dX5_would_1 : decode cX5_would 1 = .ok (.aload_n 0, 1) := by decide +kernel
theorem dX5_would_2 : decode cX5_would 2 = .ok (.iload_n 1, 1) := by decide +kernel
theorem dX5_would_3 : decode cX5_would 3 = .ok (.invokevirtual 55, 3) := by decide +kernel
theorem dX5_would_6 : decode cX5_would 6 = .ok (.ifCond .ne 7, 3) := by decide +kernel
theorem dX5_would_9 : decode cX5_would 9 = .ok (.iconst 1, 1) := by decide +kernel
theorem dX5_would_10 : decode cX5_would 10 = .ok (.goto 33, 3) := by decide +kernel
theorem dX5_would_13 : decode cX5_would 13 = .ok (.iload_n 2, 1) := by decide +kernel
theorem dX5_would_14 : decode cX5_would 14 = .ok (.i2l, 1) := by decide +kernel
theorem dX5_would_15 : decode cX5_would 15 = .ok (.lconst 0, 1) := by decide +kernel
theorem dX5_would_16 : decode cX5_would 16 = .ok (.ldc2_w 63, 3) := by decide +kernel
theorem dX5_would_19 : decode cX5_would 19 = .ok (.invokestatic 42, 3) := by decide +kernel
theorem dX5_would_22 : decode cX5_would 22 = .ok (.ifCond .ne 7, 3) := by decide +kernel
theorem dX5_would_25 : decode cX5_would 25 = .ok (.iconst 2, 1) := by decide +kernel
theorem dX5_would_26 : decode cX5_would 26 = .ok (.goto 17, 3) := by decide +kernel
theorem dX5_would_29 : decode cX5_would 29 = .ok (.aload_n 0, 1) := by decide +kernel
theorem dX5_would_30 : decode cX5_would 30 = .ok (.getfield 48, 3) := by decide +kernel
theorem dX5_would_33 : decode cX5_would 33 = .ok (.bipush 48, 2) := by decide +kernel
theorem dX5_would_35 : decode cX5_would 35 = .ok (.if_icmp .ne 7, 3) := by decide +kernel
theorem dX5_would_38 : decode cX5_would 38 = .ok (.iconst 3, 1) := by decide +kernel
theorem dX5_would_39 : decode cX5_would 39 = .ok (.goto 4, 3) := by decide +kernel
theorem dX5_would_42 : decode cX5_would 42 = .ok (.iconst 0, 1) := by decide +kernel
theorem dX5_would_43 : decode cX5_would 43 = .ok (.putfield 35, 3) := by decide +kernel
theorem dX5_would_46 : decode cX5_would 46 = .ok (.aload_n 0, 1) := by decide +kernel
theorem dX5_would_47 : decode cX5_would 47 = .ok (.getfield 35, 3) := by decide +kernel
theorem dX5_would_50 : decode cX5_would 50 = .ok (.ifCond .ne 12, 3) := by decide +kernel
theorem dX5_would_53 : decode cX5_would 53 = .ok (.aload_n 0, 1) := by decide +kernel
theorem dX5_would_54 : decode cX5_would 54 = .ok (.iload_n 1, 1) := by decide +kernel
theorem dX5_would_55 : decode cX5_would 55 = .ok (.iload_n 2, 1) := by decide +kernel
theorem dX5_would_56 : decode cX5_would 56 = .ok (.invokevirtual 166, 3) := by decide +kernel
theorem dX5_would_59 : decode cX5_would 59 = .ok (.goto 4, 3) := by decide +kernel
theorem dX5_would_62 : decode cX5_would 62 = .ok (.iconst 0, 1) := by decide +kernel
theorem dX5_would_63 : decode cX5_would 63 = .ok (.ireturn, 1) := by decide +kernel
theorem dX5_wouldBe_0 : decode cX5_wouldBe 0 = .ok (.aload_n 0, 1) := by decide +kernel
theorem dX5_wouldBe_1 : decode cX5_wouldBe 1 = .ok (.getfield 9, 3) := by decide +kernel
theorem dX5_wouldBe_4 : decode cX5_wouldBe 4 = .ok (.invokevirtual 161, 3) := by decide +kernel
theorem dX5_wouldBe_7 : decode cX5_wouldBe 7 = .ok (.checkcast 162, 3) := by decide +kernel
theorem dX5_wouldBe_10 : decode cX5_wouldBe 10 = .ok (.astore_n 3, 1) := by decide +kernel
theorem dX5_wouldBe_11 : decode cX5_wouldBe 11 = .ok (.aload_n 3, 1) := by decide +kernel
theorem dX5_wouldBe_12 : decode cX5_wouldBe 12 = .ok (.iconst 0, 1) := by decide +kernel
theorem dX5_wouldBe_13 : decode cX5_wouldBe 13 = .ok (.iload_n 2, 1) := by decide +kernel
theorem dX5_wouldBe_14 : decode cX5_wouldBe 14 = .ok (.iastore, 1) := by decide +kernel
theorem dX5_wouldBe_15 : decode cX5_wouldBe 15 = .ok (.bipush 48, 2) := by decide +kernel
theorem dX5_wouldBe_17 : decode cX5_wouldBe 17 = .ok (.newarray .int, 2) := by decide +kernel
theorem dX5_wouldBe_19 : decode cX5_wouldBe 19 = .ok (.astore 4, 2) := by decide +kernel
theorem dX5_wouldBe_21 : decode cX5_wouldBe 21 = .ok (.aload_n 0, 1) := by decide +kernel
theorem dX5_wouldBe_22 : decode cX5_wouldBe 22 = .ok (.aload_n 0, 1) := by decide +kernel
theorem dX5_wouldBe_23 : decode cX5_wouldBe 23 = .ok (.getfield 48, 3) := by decide +kernel
theorem dX5_wouldBe_26 : decode cX5_wouldBe 26 = .ok (.aload_n 0, 1) := by decide +kernel
theorem dX5_wouldBe_27 : decode cX5_wouldBe 27 = .ok (.getfield 69, 3) := by decide +kernel
theorem dX5_wouldBe_30 : decode cX5_wouldBe 30 = .ok (.aload_n 3, 1) := by decide +kernel
theorem dX5_wouldBe_31 : decode cX5_wouldBe 31 = .ok (.aload 4, 2) := by decide +kernel
theorem dX5_wouldBe_33 : decode cX5_wouldBe 33 = .ok (.invokevirtual 139, 3) := by decide +kernel
theorem dX5_wouldBe_36 : decode cX5_wouldBe 36 = .ok (.aload 4, 2) := by decide +kernel
theorem dX5_wouldBe_38 : decode cX5_wouldBe 38 = .ok (.bipush 8, 2) := by decide +kernel
theorem dX5_wouldBe_40 : decode cX5_wouldBe 40 = .ok (.iload_n 1, 1) := by decide +kernel
theorem dX5_wouldBe_41 : decode cX5_wouldBe 41 = .ok (.imul, 1) := by decide +kernel
theorem dX5_wouldBe_42 : decode cX5_wouldBe 42 = .ok (.bipush 7, 2) := by decide +kernel
theorem dX5_wouldBe_44 : decode cX5_wouldBe 44 = .ok (.iadd, 1) := by decide +kernel
theorem dX5_wouldBe_45 : decode cX5_wouldBe 45 = .ok (.iaload, 1) := by decide +kernel
theorem dX5_wouldBe_46 : decode cX5_wouldBe 46 = .ok (.ireturn, 1) := by decide +kernel
