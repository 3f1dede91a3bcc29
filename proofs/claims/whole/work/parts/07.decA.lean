theorem dX0_init_0 : decode cX0_init 0 = .ok (.aload_n 0, 1) := by decide +kernel
theorem dX0_init_1 : decode cX0_init 1 = .ok (.invokespecial 3, 3) := by decide +kernel
theorem dX0_init_4 : decode cX0_init 4 = .ok (.aload_n 0, 1) := by decide +kernel
theorem dX0_init_5 : decode cX0_init 5 = .ok (.bipush 64, 2) := by decide +kernel
theorem dX0_init_7 : decode cX0_init 7 = .ok (.newarray .boolean, 2) := by decide +kernel
theorem dX0_init_9 : decode cX0_init 9 = .ok (.putfield 9, 3) := by decide +kernel
theorem dX0_init_12 : decode cX0_init 12 = .ok (.aload_n 0, 1) := by decide +kernel
theorem dX0_init_13 : decode cX0_init 13 = .ok (.bipush 64, 2) := by decide +kernel
theorem dX0_init_15 : decode cX0_init 15 = .ok (.newarray .int, 2) := by decide +kernel
theorem dX0_init_17 : decode cX0_init 17 = .ok (.putfield 15, 3) := by decide +kernel
theorem dX0_init_20 : decode cX0_init 20 = .ok (.return_, 1) := by decide +kernel
theorem dX0_prune_0 : decode cX0_prune 0 = .ok (.iconst 0, 1) := by decide +kernel
theorem dX0_prune_1 : decode cX0_prune 1 = .ok (.istore 5, 2) := by decide +kernel
theorem dX0_prune_3 : decode cX0_prune 3 = .ok (.iload 5, 2) := by decide +kernel
theorem dX0_prune_5 : decode cX0_prune 5 = .ok (.aload_n 1, 1) := by decide +kernel
theorem dX0_prune_6 : decode cX0_prune 6 = .ok (.getfield 19, 3) := by decide +kernel
theorem dX0_prune_9 : decode cX0_prune 9 = .ok (.if_icmp .ge 34, 3) := by decide +kernel
theorem dX0_prune_12 : decode cX0_prune 12 = .ok (.aload_n 0, 1) := by decide +kernel
theorem dX0_prune_13 : decode cX0_prune 13 = .ok (.getfield 9, 3) := by decide +kernel
theorem dX0_prune_16 : decode cX0_prune 16 = .ok (.iload 5, 2) := by decide +kernel
theorem dX0_prune_18 : decode cX0_prune 18 = .ok (.iload 5, 2) := by decide +kernel
theorem dX0_prune_20 : decode cX0_prune 20 = .ok (.ifCond .eq 11, 3) := by decide +kernel
theorem dX0_prune_23 : decode cX0_prune 23 = .ok (.aload_n 2, 1) := by decide +kernel
theorem dX0_prune_24 : decode cX0_prune 24 = .ok (.iload 5, 2) := by decide +kernel
theorem dX0_prune_26 : decode cX0_prune 26 = .ok (.iaload, 1) := by decide +kernel
theorem dX0_prune_27 : decode cX0_prune 27 = .ok (.iload_n 3, 1) := by decide +kernel
theorem dX0_prune_28 : decode cX0_prune 28 = .ok (.if_icmp .lt 7, 3) := by decide +kernel
theorem dX0_prune_31 : decode cX0_prune 31 = .ok (.iconst 1, 1) := by decide +kernel
theorem dX0_prune_32 : decode cX0_prune 32 = .ok (.goto 4, 3) := by decide +kernel
theorem dX0_prune_35 : decode cX0_prune 35 = .ok (.iconst 0, 1) := by decide +kernel
theorem dX0_prune_36 : decode cX0_prune 36 = .ok (.bastore, 1) := by decide +kernel
theorem dX0_prune_37 : decode cX0_prune 37 = .ok (.iinc 5 1, 3) := by decide +kernel
theorem dX0_prune_40 : decode cX0_prune 40 = .ok (.goto (-37), 3) := by decide +kernel
theorem dX0_prune_43 : decode cX0_prune 43 = .ok (.iload 4, 2) := by decide +kernel
theorem dX0_prune_45 : decode cX0_prune 45 = .ok (.iconst 1, 1) := by decide +kernel
theorem dX0_prune_46 : decode cX0_prune 46 = .ok (.if_icmp .ne 8, 3) := by decide +kernel
theorem dX0_prune_49 : decode cX0_prune 49 = .ok (.aload_n 0, 1) := by decide +kernel
theorem dX0_prune_50 : decode cX0_prune 50 = .ok (.aload_n 1, 1) := by decide +kernel
theorem dX0_prune_51 : decode cX0_prune 51 = .ok (.invokevirtual 25, 3) := by decide +kernel
theorem dX0_prune_54 : decode cX0_prune 54 = .ok (.iload 4, 2) := by decide +kernel
theorem dX0_prune_56 : decode cX0_prune 56 = .ok (.iconst 2, 1) := by decide +kernel
theorem dX0_prune_57 : decode cX0_prune 57 = .ok (.if_icmp .ne 8, 3) := by decide +kernel
theorem dX0_prune_60 : decode cX0_prune 60 = .ok (.aload_n 0, 1) := by decide +kernel
theorem dX0_prune_61 : decode cX0_prune 61 = .ok (.aload_n 1, 1) := by decide +kernel
theorem dX0_prune_62 : decode cX0_prune 62 = .ok (.invokevirtual 29, 3) := by decide +kernel
theorem dX0_prune_65 : decode cX0_prune 65 = .ok (.iload 4, 2) := by decide +kernel
theorem dX0_prune_67 : decode cX0_prune 67 = .ok (.iconst 3, 1) := by decide +kernel
theorem dX0_prune_68 : decode cX0_prune 68 = .ok (.if_icmp .ne 11, 3) := by decide +kernel
theorem dX0_prune_71 : decode cX0_prune 71 = .ok (.aload_n 0, 1) := by decide +kernel
theorem dX0_prune_72 : decode cX0_prune 72 = .ok (.aload_n 1, 1) := by decide +kernel
theorem dX0_prune_73 : decode cX0_prune 73 = .ok (.invokevirtual 32, 3) := by decide +kernel
theorem dX0_prune_76 : decode cX0_prune 76 = .ok (.goto 8, 3) := by decide +kernel
theorem dX0_prune_79 : decode cX0_prune 79 = .ok (.aload_n 0, 1) := by decide +kernel
theorem dX0_prune_80 : decode cX0_prune 80 = .ok (.aload_n 1, 1) := by decide +kernel
theorem dX0_prune_81 : decode cX0_prune 81 = .ok (.invokevirtual 35, 3) := by decide +kernel
theorem dX0_prune_84 : decode cX0_prune 84 = .ok (.return_, 1) := by decide +kernel
theorem dX0_keepLeaves_0 : decode cX0_keepLeaves 0 = .ok (.iconst 0, 1) := by decide +kernel
theorem dX0_keepLeaves_1 : decode cX0_keepLeaves 1 = .ok (.istore 4, 2) := by decide +kernel
theorem dX0_keepLeaves_3 : decode cX0_keepLeaves 3 = .ok (.iload 4, 2) := by decide +kernel
theorem dX0_keepLeaves_5 : decode cX0_keepLeaves 5 = .ok (.aload_n 1, 1) := by decide +kernel
theorem dX0_keepLeaves_6 : decode cX0_keepLeaves 6 = .ok (.getfield 19, 3) := by decide +kernel
theorem dX0_keepLeaves_9 : decode cX0_keepLeaves 9 = .ok (.if_icmp .ge 26, 3) := by decide +kernel
theorem dX0_keepLeaves_12 : decode cX0_keepLeaves 12 = .ok (.aload_n 0, 1) := by decide +kernel
theorem dX0_keepLeaves_13 : decode cX0_keepLeaves 13 = .ok (.getfield 9, 3) := by decide +kernel
theorem dX0_keepLeaves_16 : decode cX0_keepLeaves 16 = .ok (.iload 4, 2) := by decide +kernel
theorem dX0_keepLeaves_18 : decode cX0_keepLeaves 18 = .ok (.iload 4, 2) := by decide +kernel
theorem dX0_keepLeaves_20 : decode cX0_keepLeaves 20 = .ok (.ifCond .ne 7, 3) := by decide +kernel
theorem dX0_keepLeaves_23 : decode cX0_keepLeaves 23 = .ok (.iconst 1, 1) := by decide +kernel
theorem dX0_keepLeaves_24 : decode cX0_keepLeaves 24 = .ok (.goto 4, 3) := by decide +kernel
theorem dX0_keepLeaves_27 : decode cX0_keepLeaves 27 = .ok (.iconst 0, 1) := by decide +kernel
theorem dX0_keepLeaves_28 : decode cX0_keepLeaves 28 = .ok (.bastore, 1) := by decide +kernel
theorem dX0_keepLeaves_29 : decode cX0_keepLeaves 29 = .ok (.iinc 4 1, 3) := by decide +kernel
theorem dX0_keepLeaves_32 : decode cX0_keepLeaves 32 = .ok (.goto (-29), 3) := by decide +kernel
theorem dX0_keepLeaves_35 : decode cX0_keepLeaves 35 = .ok (.iconst 0, 1) := by decide +kernel
theorem dX0_keepLeaves_36 : decode cX0_keepLeaves 36 = .ok (.istore 4, 2) := by decide +kernel
theorem dX0_keepLeaves_38 : decode cX0_keepLeaves 38 = .ok (.iload 4, 2) := by decide +kernel
theorem dX0_keepLeaves_40 : decode cX0_keepLeaves 40 = .ok (.iload_n 3, 1) := by decide +kernel
theorem dX0_keepLeaves_41 : decode cX0_keepLeaves 41 = .ok (.if_icmp .ge 19, 3) := by decide +kernel
theorem dX0_keepLeaves_44 : decode cX0_keepLeaves 44 = .ok (.aload_n 0, 1) := by decide +kernel
theorem dX0_keepLeaves_45 : decode cX0_keepLeaves 45 = .ok (.getfield 9, 3) := by decide +kernel
theorem dX0_keepLeaves_48 : decode cX0_keepLeaves 48 = .ok (.aload_n 2, 1) := by decide +kernel
theorem dX0_keepLeaves_49 : decode cX0_keepLeaves 49 = .ok (.iload 4, 2) := by decide +kernel
theorem dX0_keepLeaves_51 : decode cX0_keepLeaves 51 = .ok (.iaload, 1) := by decide +kernel
theorem dX0_keepLeaves_52 : decode cX0_keepLeaves 52 = .ok (.iconst 1, 1) := by decide +kernel
theorem dX0_keepLeaves_53 : decode cX0_keepLeaves 53 = .ok (.bastore, 1) := by decide +kernel
theorem dX0_keepLeaves_54 : decode cX0_keepLeaves 54 = .ok (.iinc 4 1, 3) := by decide +kernel
theorem dX0_keepLeaves_57 : decode cX0_keepLeaves 57 = .ok (.goto (-19), 3) := by decide +kernel
theorem dX0_keepLeaves_60 : decode cX0_keepLeaves 60 = .ok (.aload_n 0, 1) := by decide +kernel
theorem dX0_keepLeaves_61 : decode cX0_keepLeaves 61 = .ok (.aload_n 1, 1) := by decide +kernel
theorem dX0_keepLeaves_62 : decode cX0_keepLeaves 62 = .ok (.invokevirtual 29, 3) := by decide +kernel
theorem dX0_keepLeaves_65 : decode cX0_keepLeaves 65 = .ok (.aload_n 0, 1) := by decide +kernel
theorem dX0_keepLeaves_66 : decode cX0_keepLeaves 66 = .ok (.aload_n 1, 1) := by decide +kernel
theorem dX0_keepLeaves_67 : decode cX0_keepLeaves 67 = .ok (.invokevirtual 35, 3) := by decide +kernel
theorem dX0_keepLeaves_70 : decode cX0_keepLeaves 70 = .ok (.return_, 1) := by decide +kernel
theorem dX0_dropBelowDropped_0 : decode cX0_dropBelowDropped 0 = .ok (.iconst 1, 1) := by decide +kernel
theorem dX0_dropBelowDropped_1 : decode cX0_dropBelowDropped 1 = .ok (.istore_n 2, 1) := by decide +kernel
theorem dX0_dropBelowDropped_2 : decode cX0_dropBelowDropped 2 = .ok (.iload_n 2, 1) := by decide +kernel
theorem dX0_dropBelowDropped_3 : decode cX0_dropBelowDropped 3 = .ok (.aload_n 1, 1) := by decide +kernel
theorem dX0_dropBelowDropped_4 : decode cX0_dropBelowDropped 4 = .ok (.getfield 19, 3) := by decide +kernel
theorem dX0_dropBelowDropped_7 : decode cX0_dropBelowDropped 7 = .ok (.if_icmp .ge 43, 3) := by decide +kernel
theorem dX0_dropBelowDropped_10 : decode cX0_dropBelowDropped 10 = .ok (.aload_n 0, 1) := by decide +kernel
theorem dX0_dropBelowDropped_11 : decode cX0_dropBelowDropped 11 = .ok (.getfield 9, 3) := by decide +kernel
theorem dX0_dropBelowDropped_14 : decode cX0_dropBelowDropped 14 = .ok (.iload_n 2, 1) := by decide +kernel
theorem dX0_dropBelowDropped_15 : decode cX0_dropBelowDropped 15 = .ok (.aload_n 0, 1) := by decide +kernel
theorem dX0_dropBelowDropped_16 : decode cX0_dropBelowDropped 16 = .ok (.getfield 9, 3) := by decide +kernel
theorem dX0_dropBelowDropped_19 : decode cX0_dropBelowDropped 19 = .ok (.iload_n 2, 1) := by decide +kernel
theorem dX0_dropBelowDropped_20 : decode cX0_dropBelowDropped 20 = .ok (.baload, 1) := by decide +kernel
theorem dX0_dropBelowDropped_21 : decode cX0_dropBelowDropped 21 = .ok (.ifCond .eq 21, 3) := by decide +kernel
theorem dX0_dropBelowDropped_24 : decode cX0_dropBelowDropped 24 = .ok (.aload_n 0, 1) := by decide +kernel
theorem dX0_dropBelowDropped_25 : decode cX0_dropBelowDropped 25 = .ok (.getfield 9, 3) := by decide +kernel
theorem dX0_dropBelowDropped_28 : decode cX0_dropBelowDropped 28 = .ok (.aload_n 1, 1) := by decide +kernel
theorem dX0_dropBelowDropped_29 : decode cX0_dropBelowDropped 29 = .ok (.getfield 38, 3) := by decide +kernel
theorem dX0_dropBelowDropped_32 : decode cX0_dropBelowDropped 32 = .ok (.iload_n 2, 1) := by decide +kernel
theorem dX0_dropBelowDropped_33 : decode cX0_dropBelowDropped 33 = .ok (.iaload, 1) := by decide +kernel
theorem dX0_dropBelowDropped_34 : decode cX0_dropBelowDropped 34 = .ok (.baload, 1) := by decide +kernel
theorem dX0_dropBelowDropped_35 : decode cX0_dropBelowDropped 35 = .ok (.ifCond .eq 7, 3) := by decide +kernel
theorem dX0_dropBelowDropped_38 : decode cX0_dropBelowDropped 38 = .ok (.iconst 1, 1) := by decide +kernel
theorem dX0_dropBelowDropped_39 : decode cX0_dropBelowDropped 39 = .ok (.goto 4, 3) := by decide +kernel
theorem dX0_dropBelowDropped_42 : decode cX0_dropBelowDropped 42 = .ok (.iconst 0, 1) := by decide +kernel
theorem dX0_dropBelowDropped_43 : decode cX0_dropBelowDropped 43 = .ok (.bastore, 1) := by decide +kernel
theorem dX0_dropBelowDropped_44 : decode cX0_dropBelowDropped 44 = .ok (.iinc 2 1, 3) := by decide +kernel
theorem dX0_dropBelowDropped_47 : decode cX0_dropBelowDropped 47 = .ok (.goto (-45), 3) := by decide +kernel
theorem dX0_dropBelowDropped_50 : decode cX0_dropBelowDropped 50 = .ok (.return_, 1) := by decide +kernel
theorem dX0_keepAboveKept_0 : decode cX0_keepAboveKept 0 = .ok (.aload_n 1, 1) := by decide +kernel
theorem dX0_keepAboveKept_1 : decode cX0_keepAboveKept 1 = .ok (.getfield 19, 3) := by decide +kernel
theorem dX0_keepAboveKept_4 : decode cX0_keepAboveKept 4 = .ok (.iconst 1, 1) := by decide +kernel
theorem dX0_keepAboveKept_5 : decode cX0_keepAboveKept 5 = .ok (.isub, 1) := by decide +kernel
theorem dX0_keepAboveKept_6 : decode cX0_keepAboveKept 6 = .ok (.istore_n 2, 1) := by decide +kernel
theorem dX0_keepAboveKept_7 : decode cX0_keepAboveKept 7 = .ok (.iload_n 2, 1) := by decide +kernel
theorem dX0_keepAboveKept_8 : decode cX0_keepAboveKept 8 = .ok (.ifCond .le 30, 3) := by decide +kernel
theorem dX0_keepAboveKept_11 : decode cX0_keepAboveKept 11 = .ok (.aload_n 0, 1) := by decide +kernel
theorem dX0_keepAboveKept_12 : decode cX0_keepAboveKept 12 = .ok (.getfield 9, 3) := by decide +kernel
theorem dX0_keepAboveKept_15 : decode cX0_keepAboveKept 15 = .ok (.iload_n 2, 1) := by decide +kernel
theorem dX0_keepAboveKept_16 : decode cX0_keepAboveKept 16 = .ok (.baload, 1) := by decide +kernel
theorem dX0_keepAboveKept_17 : decode cX0_keepAboveKept 17 = .ok (.ifCond .eq 15, 3) := by decide +kernel
theorem dX0_keepAboveKept_20 : decode cX0_keepAboveKept 20 = .ok (.aload_n 0, 1) := by decide +kernel
theorem dX0_keepAboveKept_21 : decode cX0_keepAboveKept 21 = .ok (.getfield 9, 3) := by decide +kernel
theorem dX0_keepAboveKept_24 : decode cX0_keepAboveKept 24 = .ok (.aload_n 1, 1) := by decide +kernel
theorem dX0_keepAboveKept_25 : decode cX0_keepAboveKept 25 = .ok (.getfield 38, 3) := by decide +kernel
theorem dX0_keepAboveKept_28 : decode cX0_keepAboveKept 28 = .ok (.iload_n 2, 1) := by decide +kernel
theorem dX0_keepAboveKept_29 : decode cX0_keepAboveKept 29 = .ok (.iaload, 1) := by decide +kernel
theorem dX0_keepAboveKept_30 : decode cX0_keepAboveKept 30 = .ok (.iconst 1, 1) := by decide +kernel
theorem dX0_keepAboveKept_31 : decode cX0_keepAboveKept 31 = .ok (.bastore, 1) := by decide +kernel
theorem dX0_keepAboveKept_32 : decode cX0_keepAboveKept 32 = .ok (.iinc 2 (-1), 3) := by decide +kernel
theorem dX0_keepAboveKept_35 : decode cX0_keepAboveKept 35 = .ok (.goto (-28), 3) := by decide +kernel
theorem dX0_keepAboveKept_38 : decode cX0_keepAboveKept 38 = .ok (.return_, 1) := by decide +kernel
theorem dX0_sinkToRemaining_0 : decode cX0_sinkToRemaining 0 = .ok (.aload_n 0, 1) := by decide +kernel
theorem dX0_sinkToRemaining_1 : decode cX0_sinkToRemaining 1 = .ok (.getfield 15, 3) := by decide +kernel
theorem dX0_sinkToRemaining_4 : decode cX0_sinkToRemaining 4 = .ok (.iconst 0, 1) := by decide +kernel
theorem dX0_sinkToRemaining_5 : decode cX0_sinkToRemaining 5 = .ok (.aload_n 1, 1) := by decide +kernel
theorem dX0_sinkToRemaining_6 : decode cX0_sinkToRemaining 6 = .ok (.getfield 41, 3) := by decide +kernel
theorem dX0_sinkToRemaining_9 : decode cX0_sinkToRemaining 9 = .ok (.iconst 0, 1) := by decide +kernel
theorem dX0_sinkToRemaining_10 : decode cX0_sinkToRemaining 10 = .ok (.iaload, 1) := by decide +kernel
theorem dX0_sinkToRemaining_11 : decode cX0_sinkToRemaining 11 = .ok (.iastore, 1) := by decide +kernel
theorem dX0_sinkToRemaining_12 : decode cX0_sinkToRemaining 12 = .ok (.iconst 1, 1) := by decide +kernel
theorem dX0_sinkToRemaining_13 : decode cX0_sinkToRemaining 13 = .ok (.istore_n 2, 1) := by decide +kernel
theorem dX0_sinkToRemaining_14 : decode cX0_sinkToRemaining 14 = .ok (.iload_n 2, 1) := by decide +kernel
theorem dX0_sinkToRemaining_15 : decode cX0_sinkToRemaining 15 = .ok (.aload_n 1, 1) := by decide +kernel
theorem dX0_sinkToRemaining_16 : decode cX0_sinkToRemaining 16 = .ok (.getfield 19, 3) := by decide +kernel
theorem dX0_sinkToRemaining_19 : decode cX0_sinkToRemaining 19 = .ok (.if_icmp .ge 44, 3) := by decide +kernel
theorem dX0_sinkToRemaining_22 : decode cX0_sinkToRemaining 22 = .ok (.aload_n 0, 1) := by decide +kernel
theorem dX0_sinkToRemaining_23 : decode cX0_sinkToRemaining 23 = .ok (.getfield 15, 3) := by decide +kernel
theorem dX0_sinkToRemaining_26 : decode cX0_sinkToRemaining 26 = .ok (.iload_n 2, 1) := by decide +kernel
theorem dX0_sinkToRemaining_27 : decode cX0_sinkToRemaining 27 = .ok (.aload_n 0, 1) := by decide +kernel
theorem dX0_sinkToRemaining_28 : decode cX0_sinkToRemaining 28 = .ok (.getfield 9, 3) := by decide +kernel
theorem dX0_sinkToRemaining_31 : decode cX0_sinkToRemaining 31 = .ok (.iload_n 2, 1) := by decide +kernel
theorem dX0_sinkToRemaining_32 : decode cX0_sinkToRemaining 32 = .ok (.baload, 1) := by decide +kernel
theorem dX0_sinkToRemaining_33 : decode cX0_sinkToRemaining 33 = .ok (.ifCond .eq 12, 3) := by decide +kernel
theorem dX0_sinkToRemaining_36 : decode cX0_sinkToRemaining 36 = .ok (.aload_n 1, 1) := by decide +kernel
theorem dX0_sinkToRemaining_37 : decode cX0_sinkToRemaining 37 = .ok (.getfield 41, 3) := by decide +kernel
theorem dX0_sinkToRemaining_40 : decode cX0_sinkToRemaining 40 = .ok (.iload_n 2, 1) := by decide +kernel
theorem dX0_sinkToRemaining_41 : decode cX0_sinkToRemaining 41 = .ok (.iaload, 1) := by decide +kernel
theorem dX0_sinkToRemaining_42 : decode cX0_sinkToRemaining 42 = .ok (.goto 14, 3) := by decide +kernel
theorem dX0_sinkToRemaining_45 : decode cX0_sinkToRemaining 45 = .ok (.aload_n 0, 1) := by decide +kernel
theorem dX0_sinkToRemaining_46 : decode cX0_sinkToRemaining 46 = .ok (.getfield 15, 3) := by decide +kernel
theorem dX0_sinkToRemaining_49 : decode cX0_sinkToRemaining 49 = .ok (.aload_n 1, 1) := by decide +kernel
theorem dX0_sinkToRemaining_50 : decode cX0_sinkToRemaining 50 = .ok (.getfield 38, 3) := by decide +kernel
theorem dX0_sinkToRemaining_53 : decode cX0_sinkToRemaining 53 = .ok (.iload_n 2, 1) := by decide +kernel
theorem dX0_sinkToRemaining_54 : decode cX0_sinkToRemaining 54 = .ok (.iaload, 1) := by decide +kernel
theorem dX0_sinkToRemaining_55 : decode cX0_sinkToRemaining 55 = .ok (.iaload, 1) := by decide +kernel
theorem dX0_sinkToRemaining_56 : decode cX0_sinkToRemaining 56 = .ok (.iastore, 1) := by decide +kernel
theorem dX0_sinkToRemaining_57 : decode cX0_sinkToRemaining 57 = .ok (.iinc 2 1, 3) := by decide +kernel
theorem dX0_sinkToRemaining_60 : decode cX0_sinkToRemaining 60 = .ok (.goto (-46), 3) := by decide +kernel
theorem dX0_sinkToRemaining_63 : decode cX0_sinkToRemaining 63 = .ok (.return_, 1) := by decide +kernel
theorem dX0_addSteps_0 : decode cX0_addSteps 0 = .ok (.aload_n 0, 1) := by decide +kernel
theorem dX0_addSteps_1 : decode cX0_addSteps 1 = .ok (.getfield 15, 3) := by decide +kernel
theorem dX0_addSteps_4 : decode cX0_addSteps 4 = .ok (.iconst 0, 1) := by decide +kernel
theorem dX0_addSteps_5 : decode cX0_addSteps 5 = .ok (.aload_n 1, 1) := by decide +kernel
theorem dX0_addSteps_6 : decode cX0_addSteps 6 = .ok (.getfield 41, 3) := by decide +kernel
theorem dX0_addSteps_9 : decode cX0_addSteps 9 = .ok (.iconst 0, 1) := by decide +kernel
theorem dX0_addSteps_10 : decode cX0_addSteps 10 = .ok (.iaload, 1) := by decide +kernel
theorem dX0_addSteps_11 : decode cX0_addSteps 11 = .ok (.iastore, 1) := by decide +kernel
theorem dX0_addSteps_12 : decode cX0_addSteps 12 = .ok (.iconst 1, 1) := by decide +kernel
theorem dX0_addSteps_13 : decode cX0_addSteps 13 = .ok (.istore_n 2, 1) := by decide +kernel
theorem dX0_addSteps_14 : decode cX0_addSteps 14 = .ok (.iload_n 2, 1) := by decide +kernel
theorem dX0_addSteps_15 : decode cX0_addSteps 15 = .ok (.aload_n 1, 1) := by decide +kernel
theorem dX0_addSteps_16 : decode cX0_addSteps 16 = .ok (.getfield 19, 3) := by decide +kernel
theorem dX0_addSteps_19 : decode cX0_addSteps 19 = .ok (.if_icmp .ge 59, 3) := by decide +kernel
theorem dX0_addSteps_22 : decode cX0_addSteps 22 = .ok (.aload_n 1, 1) := by decide +kernel
theorem dX0_addSteps_23 : decode cX0_addSteps 23 = .ok (.getfield 38, 3) := by decide +kernel
theorem dX0_addSteps_26 : decode cX0_addSteps 26 = .ok (.iload_n 2, 1) := by decide +kernel
theorem dX0_addSteps_27 : decode cX0_addSteps 27 = .ok (.iaload, 1) := by decide +kernel
theorem dX0_addSteps_28 : decode cX0_addSteps 28 = .ok (.istore_n 3, 1) := by decide +kernel
theorem dX0_addSteps_29 : decode cX0_addSteps 29 = .ok (.aload_n 0, 1) := by decide +kernel
theorem dX0_addSteps_30 : decode cX0_addSteps 30 = .ok (.getfield 9, 3) := by decide +kernel
theorem dX0_addSteps_33 : decode cX0_addSteps 33 = .ok (.iload_n 2, 1) := by decide +kernel
theorem dX0_addSteps_34 : decode cX0_addSteps 34 = .ok (.baload, 1) := by decide +kernel
theorem dX0_addSteps_35 : decode cX0_addSteps 35 = .ok (.ifCond .eq 19, 3) := by decide +kernel
theorem dX0_addSteps_38 : decode cX0_addSteps 38 = .ok (.aload_n 1, 1) := by decide +kernel
theorem dX0_addSteps_39 : decode cX0_addSteps 39 = .ok (.getfield 41, 3) := by decide +kernel
theorem dX0_addSteps_42 : decode cX0_addSteps 42 = .ok (.iload_n 2, 1) := by decide +kernel
theorem dX0_addSteps_43 : decode cX0_addSteps 43 = .ok (.iaload, 1) := by decide +kernel
theorem dX0_addSteps_44 : decode cX0_addSteps 44 = .ok (.aload_n 1, 1) := by decide +kernel
theorem dX0_addSteps_45 : decode cX0_addSteps 45 = .ok (.getfield 41, 3) := by decide +kernel
theorem dX0_addSteps_48 : decode cX0_addSteps 48 = .ok (.iload_n 3, 1) := by decide +kernel
theorem dX0_addSteps_49 : decode cX0_addSteps 49 = .ok (.iaload, 1) := by decide +kernel
theorem dX0_addSteps_50 : decode cX0_addSteps 50 = .ok (.isub, 1) := by decide +kernel
theorem dX0_addSteps_51 : decode cX0_addSteps 51 = .ok (.goto 4, 3) := by decide +kernel
theorem dX0_addSteps_54 : decode cX0_addSteps 54 = .ok (.iconst 0, 1) := by decide +kernel
theorem dX0_addSteps_55 : decode cX0_addSteps 55 = .ok (.istore 4, 2) := by decide +kernel
theorem dX0_addSteps_57 : decode cX0_addSteps 57 = .ok (.aload_n 0, 1) := by decide +kernel
theorem dX0_addSteps_58 : decode cX0_addSteps 58 = .ok (.getfield 15, 3) := by decide +kernel
theorem dX0_addSteps_61 : decode cX0_addSteps 61 = .ok (.iload_n 2, 1) := by decide +kernel
theorem dX0_addSteps_62 : decode cX0_addSteps 62 = .ok (.aload_n 0, 1) := by decide +kernel
theorem dX0_addSteps_63 : decode cX0_addSteps 63 = .ok (.getfield 15, 3) := by decide +kernel
theorem dX0_addSteps_66 : decode cX0_addSteps 66 = .ok (.iload_n 3, 1) := by decide +kernel
theorem dX0_addSteps_67 : decode cX0_addSteps 67 = .ok (.iaload, 1) := by decide +kernel
theorem dX0_addSteps_68 : decode cX0_addSteps 68 = .ok (.iload 4, 2) := by decide +kernel
theorem dX0_addSteps_70 : decode cX0_addSteps 70 = .ok (.iadd, 1) := by decide +kernel
theorem dX0_addSteps_71 : decode cX0_addSteps 71 = .ok (.iastore, 1) := by decide +kernel
theorem dX0_addSteps_72 : decode cX0_addSteps 72 = .ok (.iinc 2 1, 3) := by decide +kernel
theorem dX0_addSteps_75 : decode cX0_addSteps 75 = .ok (.goto (-61), 3) := by decide +kernel
theorem dX0_addSteps_78 : decode cX0_addSteps 78 = .ok (.return_, 1) := by decide +kernel
theorem dX0_rebuild_0 : decode cX0_rebuild 0 = .ok (.aload_n 0, 1) := by decide +kernel
theorem dX0_rebuild_1 : decode cX0_rebuild 1 = .ok (.getfield 15, 3) := by decide +kernel
theorem dX0_rebuild_4 : decode cX0_rebuild 4 = .ok (.iconst 0, 1) := by decide +kernel
theorem dX0_rebuild_5 : decode cX0_rebuild 5 = .ok (.invokestatic 44, 3) := by decide +kernel
theorem dX0_rebuild_8 : decode cX0_rebuild 8 = .ok (.iconst 0, 1) := by decide +kernel
theorem dX0_rebuild_9 : decode cX0_rebuild 9 = .ok (.istore_n 3, 1) := by decide +kernel
theorem dX0_rebuild_10 : decode cX0_rebuild 10 = .ok (.iload_n 3, 1) := by decide +kernel
theorem dX0_rebuild_11 : decode cX0_rebuild 11 = .ok (.aload_n 1, 1) := by decide +kernel
theorem dX0_rebuild_12 : decode cX0_rebuild 12 = .ok (.getfield 50, 3) := by decide +kernel
theorem dX0_rebuild_15 : decode cX0_rebuild 15 = .ok (.getfield 54, 3) := by decide +kernel
theorem dX0_rebuild_18 : decode cX0_rebuild 18 = .ok (.if_icmp .ge 37, 3) := by decide +kernel
theorem dX0_rebuild_21 : decode cX0_rebuild 21 = .ok (.aload_n 1, 1) := by decide +kernel
theorem dX0_rebuild_22 : decode cX0_rebuild 22 = .ok (.getfield 59, 3) := by decide +kernel
theorem dX0_rebuild_25 : decode cX0_rebuild 25 = .ok (.iload_n 3, 1) := by decide +kernel
theorem dX0_rebuild_26 : decode cX0_rebuild 26 = .ok (.iaload, 1) := by decide +kernel
theorem dX0_rebuild_27 : decode cX0_rebuild 27 = .ok (.istore 4, 2) := by decide +kernel
theorem dX0_rebuild_29 : decode cX0_rebuild 29 = .ok (.aload_n 0, 1) := by decide +kernel
theorem dX0_rebuild_30 : decode cX0_rebuild 30 = .ok (.getfield 15, 3) := by decide +kernel
theorem dX0_rebuild_33 : decode cX0_rebuild 33 = .ok (.iload 4, 2) := by decide +kernel
theorem dX0_rebuild_35 : decode cX0_rebuild 35 = .ok (.aload_n 0, 1) := by decide +kernel
theorem dX0_rebuild_36 : decode cX0_rebuild 36 = .ok (.getfield 15, 3) := by decide +kernel
theorem dX0_rebuild_39 : decode cX0_rebuild 39 = .ok (.iload 4, 2) := by decide +kernel
theorem dX0_rebuild_41 : decode cX0_rebuild 41 = .ok (.iaload, 1) := by decide +kernel
theorem dX0_rebuild_42 : decode cX0_rebuild 42 = .ok (.aload_n 2, 1) := by decide +kernel
theorem dX0_rebuild_43 : decode cX0_rebuild 43 = .ok (.iload_n 3, 1) := by decide +kernel
theorem dX0_rebuild_44 : decode cX0_rebuild 44 = .ok (.iaload, 1) := by decide +kernel
theorem dX0_rebuild_45 : decode cX0_rebuild 45 = .ok (.invokestatic 62, 3) := by decide +kernel
theorem dX0_rebuild_48 : decode cX0_rebuild 48 = .ok (.iastore, 1) := by decide +kernel
theorem dX0_rebuild_49 : decode cX0_rebuild 49 = .ok (.iinc 3 1, 3) := by decide +kernel
theorem dX0_rebuild_52 : decode cX0_rebuild 52 = .ok (.goto (-42), 3) := by decide +kernel
theorem dX0_rebuild_55 : decode cX0_rebuild 55 = .ok (.aload_n 1, 1) := by decide +kernel
theorem dX0_rebuild_56 : decode cX0_rebuild 56 = .ok (.getfield 19, 3) := by decide +kernel
theorem dX0_rebuild_59 : decode cX0_rebuild 59 = .ok (.iconst 1, 1) := by decide +kernel
theorem dX0_rebuild_60 : decode cX0_rebuild 60 = .ok (.isub, 1) := by decide +kernel
theorem dX0_rebuild_61 : decode cX0_rebuild 61 = .ok (.istore_n 3, 1) := by decide +kernel
theorem dX0_rebuild_62 : decode cX0_rebuild 62 = .ok (.iload_n 3, 1) := by decide +kernel
theorem dX0_rebuild_63 : decode cX0_rebuild 63 = .ok (.ifCond .le 40, 3) := by decide +kernel
theorem dX0_rebuild_66 : decode cX0_rebuild 66 = .ok (.aload_n 1, 1) := by decide +kernel
theorem dX0_rebuild_67 : decode cX0_rebuild 67 = .ok (.getfield 38, 3) := by decide +kernel
theorem dX0_rebuild_70 : decode cX0_rebuild 70 = .ok (.iload_n 3, 1) := by decide +kernel
theorem dX0_rebuild_71 : decode cX0_rebuild 71 = .ok (.iaload, 1) := by decide +kernel
theorem dX0_rebuild_72 : decode cX0_rebuild 72 = .ok (.istore 4, 2) := by decide +kernel
theorem dX0_rebuild_74 : decode cX0_rebuild 74 = .ok (.aload_n 0, 1) := by decide +kernel
theorem dX0_rebuild_75 : decode cX0_rebuild 75 = .ok (.getfield 15, 3) := by decide +kernel
theorem dX0_rebuild_78 : decode cX0_rebuild 78 = .ok (.iload 4, 2) := by decide +kernel
theorem dX0_rebuild_80 : decode cX0_rebuild 80 = .ok (.aload_n 0, 1) := by decide +kernel
theorem dX0_rebuild_81 : decode cX0_rebuild 81 = .ok (.getfield 15, 3) := by decide +kernel
theorem dX0_rebuild_84 : decode cX0_rebuild 84 = .ok (.iload 4, 2) := by decide +kernel
theorem dX0_rebuild_86 : decode cX0_rebuild 86 = .ok (.iaload, 1) := by decide +kernel
theorem dX0_rebuild_87 : decode cX0_rebuild 87 = .ok (.aload_n 0, 1) := by decide +kernel
theorem dX0_rebuild_88 : decode cX0_rebuild 88 = .ok (.getfield 15, 3) := by decide +kernel
theorem dX0_rebuild_91 : decode cX0_rebuild 91 = .ok (.iload_n 3, 1) := by decide +kernel
theorem dX0_rebuild_92 : decode cX0_rebuild 92 = .ok (.iaload, 1) := by decide +kernel
theorem dX0_rebuild_93 : decode cX0_rebuild 93 = .ok (.invokestatic 62, 3) := by decide +kernel
theorem dX0_rebuild_96 : decode cX0_rebuild 96 = .ok (.iastore, 1) := by decide +kernel
theorem dX0_rebuild_97 : decode cX0_rebuild 97 = .ok (.iinc 3 (-1), 3) := by decide +kernel
theorem dX0_rebuild_100 : decode cX0_rebuild 100 = .ok (.goto (-38), 3) := by decide +kernel
theorem dX0_rebuild_103 : decode cX0_rebuild 103 = .ok (.aload_n 0, 1) := by decide +kernel
theorem dX0_rebuild_104 : decode cX0_rebuild 104 = .ok (.getfield 15, 3) := by decide +kernel
theorem dX0_rebuild_107 : decode cX0_rebuild 107 = .ok (.iconst 0, 1) := by decide +kernel
theorem dX0_rebuild_108 : decode cX0_rebuild 108 = .ok (.aload_n 0, 1) := by decide +kernel
theorem dX0_rebuild_109 : decode cX0_rebuild 109 = .ok (.getfield 15, 3) := by decide +kernel
theorem dX0_rebuild_112 : decode cX0_rebuild 112 = .ok (.iconst 0, 1) := by decide +kernel
theorem dX0_rebuild_113 : decode cX0_rebuild 113 = .ok (.iaload, 1) := by decide +kernel
theorem dX0_rebuild_114 : decode cX0_rebuild 114 = .ok (.aload_n 1, 1) := by decide +kernel
theorem dX0_rebuild_115 : decode cX0_rebuild 115 = .ok (.getfield 41, 3) := by decide +kernel
theorem dX0_rebuild_118 : decode cX0_rebuild 118 = .ok (.iconst 0, 1) := by decide +kernel
theorem dX0_rebuild_119 : decode cX0_rebuild 119 = .ok (.iaload, 1) := by decide +kernel
theorem dX0_rebuild_120 : decode cX0_rebuild 120 = .ok (.invokestatic 68, 3) := by decide +kernel
theorem dX0_rebuild_123 : decode cX0_rebuild 123 = .ok (.iastore, 1) := by decide +kernel
theorem dX0_rebuild_124 : decode cX0_rebuild 124 = .ok (.iconst 1, 1) := by decide +kernel
theorem dX0_rebuild_125 : decode cX0_rebuild 125 = .ok (.istore_n 3, 1) := by decide +kernel
theorem dX0_rebuild_126 : decode cX0_rebuild 126 = .ok (.iload_n 3, 1) := by decide +kernel
theorem dX0_rebuild_127 : decode cX0_rebuild 127 = .ok (.aload_n 1, 1) := by decide +kernel
theorem dX0_rebuild_128 : decode cX0_rebuild 128 = .ok (.getfield 19, 3) := by decide +kernel
theorem dX0_rebuild_131 : decode cX0_rebuild 131 = .ok (.if_icmp .ge 48, 3) := by decide +kernel
theorem dX0_rebuild_134 : decode cX0_rebuild 134 = .ok (.aload_n 0, 1) := by decide +kernel
theorem dX0_rebuild_135 : decode cX0_rebuild 135 = .ok (.getfield 15, 3) := by decide +kernel
theorem dX0_rebuild_138 : decode cX0_rebuild 138 = .ok (.iload_n 3, 1) := by decide +kernel
theorem dX0_rebuild_139 : decode cX0_rebuild 139 = .ok (.iaload, 1) := by decide +kernel
theorem dX0_rebuild_140 : decode cX0_rebuild 140 = .ok (.aload_n 1, 1) := by decide +kernel
theorem dX0_rebuild_141 : decode cX0_rebuild 141 = .ok (.getfield 41, 3) := by decide +kernel
theorem dX0_rebuild_144 : decode cX0_rebuild 144 = .ok (.iload_n 3, 1) := by decide +kernel
theorem dX0_rebuild_145 : decode cX0_rebuild 145 = .ok (.iaload, 1) := by decide +kernel
theorem dX0_rebuild_146 : decode cX0_rebuild 146 = .ok (.invokestatic 68, 3) := by decide +kernel
theorem dX0_rebuild_149 : decode cX0_rebuild 149 = .ok (.istore 4, 2) := by decide +kernel
theorem dX0_rebuild_151 : decode cX0_rebuild 151 = .ok (.aload_n 0, 1) := by decide +kernel
theorem dX0_rebuild_152 : decode cX0_rebuild 152 = .ok (.getfield 15, 3) := by decide +kernel
theorem dX0_rebuild_155 : decode cX0_rebuild 155 = .ok (.iload_n 3, 1) := by decide +kernel
theorem dX0_rebuild_156 : decode cX0_rebuild 156 = .ok (.iload 4, 2) := by decide +kernel
theorem dX0_rebuild_158 : decode cX0_rebuild 158 = .ok (.aload_n 0, 1) := by decide +kernel
theorem dX0_rebuild_159 : decode cX0_rebuild 159 = .ok (.getfield 15, 3) := by decide +kernel
theorem dX0_rebuild_162 : decode cX0_rebuild 162 = .ok (.aload_n 1, 1) := by decide +kernel
theorem dX0_rebuild_163 : decode cX0_rebuild 163 = .ok (.getfield 38, 3) := by decide +kernel
theorem dX0_rebuild_166 : decode cX0_rebuild 166 = .ok (.iload_n 3, 1) := by decide +kernel
theorem dX0_rebuild_167 : decode cX0_rebuild 167 = .ok (.iaload, 1) := by decide +kernel
theorem dX0_rebuild_168 : decode cX0_rebuild 168 = .ok (.iaload, 1) := by decide +kernel
theorem dX0_rebuild_169 : decode cX0_rebuild 169 = .ok (.invokestatic 62, 3) := by decide +kernel
theorem dX0_rebuild_172 : decode cX0_rebuild 172 = .ok (.iastore, 1) := by decide +kernel
theorem dX0_rebuild_173 : decode cX0_rebuild 173 = .ok (.iinc 3 1, 3) := by decide +kernel
theorem dX0_rebuild_176 : decode cX0_rebuild 176 = .ok (.goto (-50), 3) := by decide +kernel
theorem dX0_rebuild_179 : decode cX0_rebuild 179 = .ok (.return_, 1) := by decide +kernel
theorem dX0_lossIn_0 : decode cX0_lossIn 0 = .ok (.iconst 0, 1) := by decide +kernel
theorem dX0_lossIn_1 : decode cX0_lossIn 1 = .ok (.istore_n 2, 1) := by decide +kernel
theorem dX0_lossIn_2 : decode cX0_lossIn 2 = .ok (.iconst 0, 1) := by decide +kernel
theorem dX0_lossIn_3 : decode cX0_lossIn 3 = .ok (.istore_n 3, 1) := by decide +kernel
theorem dX0_lossIn_4 : decode cX0_lossIn 4 = .ok (.iload_n 3, 1) := by decide +kernel
theorem dX0_lossIn_5 : decode cX0_lossIn 5 = .ok (.aload_n 1, 1) := by decide +kernel
theorem dX0_lossIn_6 : decode cX0_lossIn 6 = .ok (.getfield 19, 3) := by decide +kernel
theorem dX0_lossIn_9 : decode cX0_lossIn 9 = .ok (.if_icmp .ge 35, 3) := by decide +kernel
theorem dX0_lossIn_12 : decode cX0_lossIn 12 = .ok (.iload_n 2, 1) := by decide +kernel
theorem dX0_lossIn_13 : decode cX0_lossIn 13 = .ok (.aload_n 1, 1) := by decide +kernel
theorem dX0_lossIn_14 : decode cX0_lossIn 14 = .ok (.getfield 71, 3) := by decide +kernel
theorem dX0_lossIn_17 : decode cX0_lossIn 17 = .ok (.iload_n 3, 1) := by decide +kernel
theorem dX0_lossIn_18 : decode cX0_lossIn 18 = .ok (.iaload, 1) := by decide +kernel
theorem dX0_lossIn_19 : decode cX0_lossIn 19 = .ok (.aload_n 1, 1) := by decide +kernel
theorem dX0_lossIn_20 : decode cX0_lossIn 20 = .ok (.getfield 41, 3) := by decide +kernel
theorem dX0_lossIn_23 : decode cX0_lossIn 23 = .ok (.iload_n 3, 1) := by decide +kernel
theorem dX0_lossIn_24 : decode cX0_lossIn 24 = .ok (.iaload, 1) := by decide +kernel
theorem dX0_lossIn_25 : decode cX0_lossIn 25 = .ok (.aload_n 0, 1) := by decide +kernel
theorem dX0_lossIn_26 : decode cX0_lossIn 26 = .ok (.getfield 15, 3) := by decide +kernel
theorem dX0_lossIn_29 : decode cX0_lossIn 29 = .ok (.iload_n 3, 1) := by decide +kernel
theorem dX0_lossIn_30 : decode cX0_lossIn 30 = .ok (.iaload, 1) := by decide +kernel
theorem dX0_lossIn_31 : decode cX0_lossIn 31 = .ok (.isub, 1) := by decide +kernel
theorem dX0_lossIn_32 : decode cX0_lossIn 32 = .ok (.invokestatic 74, 3) := by decide +kernel
theorem dX0_lossIn_35 : decode cX0_lossIn 35 = .ok (.imul, 1) := by decide +kernel
theorem dX0_lossIn_36 : decode cX0_lossIn 36 = .ok (.iadd, 1) := by decide +kernel
theorem dX0_lossIn_37 : decode cX0_lossIn 37 = .ok (.istore_n 2, 1) := by decide +kernel
theorem dX0_lossIn_38 : decode cX0_lossIn 38 = .ok (.iinc 3 1, 3) := by decide +kernel
theorem dX0_lossIn_41 : decode cX0_lossIn 41 = .ok (.goto (-37), 3) := by decide +kernel
theorem dX0_lossIn_44 : decode cX0_lossIn 44 = .ok (.iload_n 2, 1) := by decide +kernel
theorem dX0_lossIn_45 : decode cX0_lossIn 45 = .ok (.ireturn, 1) := by decide +kernel
theorem dX0_changedIn_0 : decode cX0_changedIn 0 = .ok (.iconst 0, 1) := by decide +kernel
theorem dX0_changedIn_1 : decode cX0_changedIn 1 = .ok (.istore_n 2, 1) := by decide +kernel
theorem dX0_changedIn_2 : decode cX0_changedIn 2 = .ok (.iconst 0, 1) := by decide +kernel
theorem dX0_changedIn_3 : decode cX0_changedIn 3 = .ok (.istore_n 3, 1) := by decide +kernel
theorem dX0_changedIn_4 : decode cX0_changedIn 4 = .ok (.iload_n 3, 1) := by decide +kernel
theorem dX0_changedIn_5 : decode cX0_changedIn 5 = .ok (.aload_n 1, 1) := by decide +kernel
theorem dX0_changedIn_6 : decode cX0_changedIn 6 = .ok (.getfield 19, 3) := by decide +kernel
theorem dX0_changedIn_9 : decode cX0_changedIn 9 = .ok (.if_icmp .ge 37, 3) := by decide +kernel
theorem dX0_changedIn_12 : decode cX0_changedIn 12 = .ok (.iload_n 2, 1) := by decide +kernel
theorem dX0_changedIn_13 : decode cX0_changedIn 13 = .ok (.aload_n 1, 1) := by decide +kernel
theorem dX0_changedIn_14 : decode cX0_changedIn 14 = .ok (.getfield 41, 3) := by decide +kernel
theorem dX0_changedIn_17 : decode cX0_changedIn 17 = .ok (.iload_n 3, 1) := by decide +kernel
theorem dX0_changedIn_18 : decode cX0_changedIn 18 = .ok (.iaload, 1) := by decide +kernel
theorem dX0_changedIn_19 : decode cX0_changedIn 19 = .ok (.aload_n 0, 1) := by decide +kernel
theorem dX0_changedIn_20 : decode cX0_changedIn 20 = .ok (.getfield 15, 3) := by decide +kernel
theorem dX0_changedIn_23 : decode cX0_changedIn 23 = .ok (.iload_n 3, 1) := by decide +kernel
theorem dX0_changedIn_24 : decode cX0_changedIn 24 = .ok (.iaload, 1) := by decide +kernel
theorem dX0_changedIn_25 : decode cX0_changedIn 25 = .ok (.if_icmp .ne 7, 3) := by decide +kernel
theorem dX0_changedIn_28 : decode cX0_changedIn 28 = .ok (.iconst 0, 1) := by decide +kernel
theorem dX0_changedIn_29 : decode cX0_changedIn 29 = .ok (.goto 9, 3) := by decide +kernel
theorem dX0_changedIn_32 : decode cX0_changedIn 32 = .ok (.aload_n 1, 1) := by decide +kernel
theorem dX0_changedIn_33 : decode cX0_changedIn 33 = .ok (.getfield 71, 3) := by decide +kernel
theorem dX0_changedIn_36 : decode cX0_changedIn 36 = .ok (.iload_n 3, 1) := by decide +kernel
theorem dX0_changedIn_37 : decode cX0_changedIn 37 = .ok (.iaload, 1) := by decide +kernel
theorem dX0_changedIn_38 : decode cX0_changedIn 38 = .ok (.iadd, 1) := by decide +kernel
theorem dX0_changedIn_39 : decode cX0_changedIn 39 = .ok (.istore_n 2, 1) := by decide +kernel
theorem dX0_changedIn_40 : decode cX0_changedIn 40 = .ok (.iinc 3 1, 3) := by decide +kernel
theorem dX0_changedIn_43 : decode cX0_changedIn 43 = .ok (.goto (-39), 3) := by decide +kernel
theorem dX0_changedIn_46 : decode cX0_changedIn 46 = .ok (.iload_n 2, 1) := by decide +kernel
theorem dX0_changedIn_47 : decode cX0_changedIn 47 = .ok (.ireturn, 1) := by decide +kernel
theorem dX1_init_0 : decode cX1_init 0 = .ok (.aload_n 0, 1) := by decide +kernel
theorem dX1_init_1 : decode cX1_init 1 = .ok (.invokespecial 3, 3) := by decide +kernel
theorem dX1_init_4 : decode cX1_init 4 = .ok (.aload_n 0, 1) := by decide +kernel
theorem dX1_init_5 : decode cX1_init 5 = .ok (.iconst 1, 1) := by decide +kernel
theorem dX1_init_6 : decode cX1_init 6 = .ok (.putfield 9, 3) := by decide +kernel
theorem dX1_init_9 : decode cX1_init 9 = .ok (.aload_n 0, 1) := by decide +kernel
theorem dX1_init_10 : decode cX1_init 10 = .ok (.iconst 1, 1) := by decide +kernel
theorem dX1_init_11 : decode cX1_init 11 = .ok (.putfield 15, 3) := by decide +kernel
theorem dX1_init_14 : decode cX1_init 14 = .ok (.aload_n 0, 1) := by decide +kernel
theorem dX1_init_15 : decode cX1_init 15 = .ok (.iconst 1, 1) := by decide +kernel
theorem dX1_init_16 : decode cX1_init 16 = .ok (.putfield 18, 3) := by decide +kernel
theorem dX1_init_19 : decode cX1_init 19 = .ok (.aload_n 0, 1) := by decide +kernel
theorem dX1_init_20 : decode cX1_init 20 = .ok (.lconst 1, 1) := by decide +kernel
theorem dX1_init_21 : decode cX1_init 21 = .ok (.putfield 21, 3) := by decide +kernel
theorem dX1_init_24 : decode cX1_init 24 = .ok (.aload_n 0, 1) := by decide +kernel
theorem dX1_init_25 : decode cX1_init 25 = .ok (.lconst 1, 1) := by decide +kernel
theorem dX1_init_26 : decode cX1_init 26 = .ok (.putfield 25, 3) := by decide +kernel
theorem dX1_init_29 : decode cX1_init 29 = .ok (.aload_n 0, 1) := by decide +kernel
theorem dX1_init_30 : decode cX1_init 30 = .ok (.lconst 1, 1) := by decide +kernel
theorem dX1_init_31 : decode cX1_init 31 = .ok (.putfield 28, 3) := by decide +kernel
theorem dX1_init_34 : decode cX1_init 34 = .ok (.aload_n 0, 1) := by decide +kernel
theorem dX1_init_35 : decode cX1_init 35 = .ok (.lconst 1, 1) := by decide +kernel
theorem dX1_init_36 : decode cX1_init 36 = .ok (.putfield 31, 3) := by decide +kernel
theorem dX1_init_39 : decode cX1_init 39 = .ok (.return_, 1) := by decide +kernel
theorem dX1_shape_0 : decode cX1_shape 0 = .ok (.aload_n 0, 1) := by decide +kernel
theorem dX1_shape_1 : decode cX1_shape 1 = .ok (.iload_n 1, 1) := by decide +kernel
theorem dX1_shape_2 : decode cX1_shape 2 = .ok (.putfield 9, 3) := by decide +kernel
theorem dX1_shape_5 : decode cX1_shape 5 = .ok (.aload_n 0, 1) := by decide +kernel
theorem dX1_shape_6 : decode cX1_shape 6 = .ok (.iload_n 2, 1) := by decide +kernel
theorem dX1_shape_7 : decode cX1_shape 7 = .ok (.putfield 15, 3) := by decide +kernel
theorem dX1_shape_10 : decode cX1_shape 10 = .ok (.aload_n 0, 1) := by decide +kernel
theorem dX1_shape_11 : decode cX1_shape 11 = .ok (.aload_n 0, 1) := by decide +kernel
theorem dX1_shape_12 : decode cX1_shape 12 = .ok (.getfield 9, 3) := by decide +kernel
theorem dX1_shape_15 : decode cX1_shape 15 = .ok (.aload_n 0, 1) := by decide +kernel
theorem dX1_shape_16 : decode cX1_shape 16 = .ok (.getfield 15, 3) := by decide +kernel
theorem dX1_shape_19 : decode cX1_shape 19 = .ok (.imul, 1) := by decide +kernel
theorem dX1_shape_20 : decode cX1_shape 20 = .ok (.putfield 18, 3) := by decide +kernel
theorem dX1_shape_23 : decode cX1_shape 23 = .ok (.aload_n 0, 1) := by decide +kernel
theorem dX1_shape_24 : decode cX1_shape 24 = .ok (.ldc2_w 34, 3) := by decide +kernel
theorem dX1_shape_27 : decode cX1_shape 27 = .ok (.bipush 64, 2) := by decide +kernel
theorem dX1_shape_29 : decode cX1_shape 29 = .ok (.aload_n 0, 1) := by decide +kernel
theorem dX1_shape_30 : decode cX1_shape 30 = .ok (.getfield 18, 3) := by decide +kernel
theorem dX1_shape_33 : decode cX1_shape 33 = .ok (.isub, 1) := by decide +kernel
theorem dX1_shape_34 : decode cX1_shape 34 = .ok (.lushr, 1) := by decide +kernel
theorem dX1_shape_35 : decode cX1_shape 35 = .ok (.putfield 21, 3) := by decide +kernel
theorem dX1_shape_38 : decode cX1_shape 38 = .ok (.aload_n 0, 1) := by decide +kernel
theorem dX1_shape_39 : decode cX1_shape 39 = .ok (.lconst 0, 1) := by decide +kernel
theorem dX1_shape_40 : decode cX1_shape 40 = .ok (.putfield 25, 3) := by decide +kernel
theorem dX1_shape_43 : decode cX1_shape 43 = .ok (.iconst 0, 1) := by decide +kernel
theorem dX1_shape_44 : decode cX1_shape 44 = .ok (.istore_n 3, 1) := by decide +kernel
theorem dX1_shape_45 : decode cX1_shape 45 = .ok (.iload_n 3, 1) := by decide +kernel
theorem dX1_shape_46 : decode cX1_shape 46 = .ok (.aload_n 0, 1) := by decide +kernel
theorem dX1_shape_47 : decode cX1_shape 47 = .ok (.getfield 15, 3) := by decide +kernel
theorem dX1_shape_50 : decode cX1_shape 50 = .ok (.if_icmp .ge 26, 3) := by decide +kernel
theorem dX1_shape_53 : decode cX1_shape 53 = .ok (.aload_n 0, 1) := by decide +kernel
theorem dX1_shape_54 : decode cX1_shape 54 = .ok (.dup, 1) := by decide +kernel
theorem dX1_shape_55 : decode cX1_shape 55 = .ok (.getfield 25, 3) := by decide +kernel
theorem dX1_shape_58 : decode cX1_shape 58 = .ok (.lconst 1, 1) := by decide +kernel
theorem dX1_shape_59 : decode cX1_shape 59 = .ok (.iload_n 3, 1) := by decide +kernel
theorem dX1_shape_60 : decode cX1_shape 60 = .ok (.aload_n 0, 1) := by decide +kernel
theorem dX1_shape_61 : decode cX1_shape 61 = .ok (.getfield 9, 3) := by decide +kernel
theorem dX1_shape_64 : decode cX1_shape 64 = .ok (.imul, 1) := by decide +kernel
theorem dX1_shape_65 : decode cX1_shape 65 = .ok (.lshl, 1) := by decide +kernel
theorem dX1_shape_66 : decode cX1_shape 66 = .ok (.lor, 1) := by decide +kernel
theorem dX1_shape_67 : decode cX1_shape 67 = .ok (.putfield 25, 3) := by decide +kernel
theorem dX1_shape_70 : decode cX1_shape 70 = .ok (.iinc 3 1, 3) := by decide +kernel
theorem dX1_shape_73 : decode cX1_shape 73 = .ok (.goto (-28), 3) := by decide +kernel
theorem dX1_shape_76 : decode cX1_shape 76 = .ok (.aload_n 0, 1) := by decide +kernel
theorem dX1_shape_77 : decode cX1_shape 77 = .ok (.aload_n 0, 1) := by decide +kernel
theorem dX1_shape_78 : decode cX1_shape 78 = .ok (.getfield 25, 3) := by decide +kernel
theorem dX1_shape_81 : decode cX1_shape 81 = .ok (.aload_n 0, 1) := by decide +kernel
theorem dX1_shape_82 : decode cX1_shape 82 = .ok (.getfield 9, 3) := by decide +kernel
theorem dX1_shape_85 : decode cX1_shape 85 = .ok (.iconst 1, 1) := by decide +kernel
theorem dX1_shape_86 : decode cX1_shape 86 = .ok (.isub, 1) := by decide +kernel
theorem dX1_shape_87 : decode cX1_shape 87 = .ok (.lshl, 1) := by decide +kernel
theorem dX1_shape_88 : decode cX1_shape 88 = .ok (.putfield 28, 3) := by decide +kernel
theorem dX1_shape_91 : decode cX1_shape 91 = .ok (.aload_n 0, 1) := by decide +kernel
theorem dX1_shape_92 : decode cX1_shape 92 = .ok (.aload_n 0, 1) := by decide +kernel
theorem dX1_shape_93 : decode cX1_shape 93 = .ok (.getfield 25, 3) := by decide +kernel
theorem dX1_shape_96 : decode cX1_shape 96 = .ok (.aload_n 0, 1) := by decide +kernel
theorem dX1_shape_97 : decode cX1_shape 97 = .ok (.getfield 28, 3) := by decide +kernel
theorem dX1_shape_100 : decode cX1_shape 100 = .ok (.lor, 1) := by decide +kernel
theorem dX1_shape_101 : decode cX1_shape 101 = .ok (.aload_n 0, 1) := by decide +kernel
theorem dX1_shape_102 : decode cX1_shape 102 = .ok (.iconst 0, 1) := by decide +kernel
theorem dX1_shape_103 : decode cX1_shape 103 = .ok (.invokevirtual 36, 3) := by decide +kernel
theorem dX1_shape_106 : decode cX1_shape 106 = .ok (.lor, 1) := by decide +kernel
theorem dX1_shape_107 : decode cX1_shape 107 = .ok (.aload_n 0, 1) := by decide +kernel
theorem dX1_shape_108 : decode cX1_shape 108 = .ok (.aload_n 0, 1) := by decide +kernel
theorem dX1_shape_109 : decode cX1_shape 109 = .ok (.getfield 15, 3) := by decide +kernel
theorem dX1_shape_112 : decode cX1_shape 112 = .ok (.iconst 1, 1) := by decide +kernel
theorem dX1_shape_113 : decode cX1_shape 113 = .ok (.isub, 1) := by decide +kernel
theorem dX1_shape_114 : decode cX1_shape 114 = .ok (.invokevirtual 36, 3) := by decide +kernel
theorem dX1_shape_117 : decode cX1_shape 117 = .ok (.lor, 1) := by decide +kernel
theorem dX1_shape_118 : decode cX1_shape 118 = .ok (.putfield 31, 3) := by decide +kernel
theorem dX1_shape_121 : decode cX1_shape 121 = .ok (.return_, 1) := by decide +kernel
theorem dX1_rowSet_0 : decode cX1_rowSet 0 = .ok (.lconst 1, 1) := by decide +kernel
theorem dX1_rowSet_1 : decode cX1_rowSet 1 = .ok (.aload_n 0, 1) := by decide +kernel
theorem dX1_rowSet_2 : decode cX1_rowSet 2 = .ok (.getfield 9, 3) := by decide +kernel
theorem dX1_rowSet_5 : decode cX1_rowSet 5 = .ok (.lshl, 1) := by decide +kernel
theorem dX1_rowSet_6 : decode cX1_rowSet 6 = .ok (.lconst 1, 1) := by decide +kernel
theorem dX1_rowSet_7 : decode cX1_rowSet 7 = .ok (.lsub, 1) := by decide +kernel
theorem dX1_rowSet_8 : decode cX1_rowSet 8 = .ok (.iload_n 1, 1) := by decide +kernel
theorem dX1_rowSet_9 : decode cX1_rowSet 9 = .ok (.aload_n 0, 1) := by decide +kernel
theorem dX1_rowSet_10 : decode cX1_rowSet 10 = .ok (.getfield 9, 3) := by decide +kernel
theorem dX1_rowSet_13 : decode cX1_rowSet 13 = .ok (.imul, 1) := by decide +kernel
theorem dX1_rowSet_14 : decode cX1_rowSet 14 = .ok (.lshl, 1) := by decide +kernel
theorem dX1_rowSet_15 : decode cX1_rowSet 15 = .ok (.lreturn, 1) := by decide +kernel
theorem dX1_columnSet_0 : decode cX1_columnSet 0 = .ok (.aload_n 0, 1) := by decide +kernel
theorem dX1_columnSet_1 : decode cX1_columnSet 1 = .ok (.getfield 25, 3) := by decide +kernel
theorem dX1_columnSet_4 : decode cX1_columnSet 4 = .ok (.iload_n 1, 1) := by decide +kernel
theorem dX1_columnSet_5 : decode cX1_columnSet 5 = .ok (.lshl, 1) := by decide +kernel
theorem dX1_columnSet_6 : decode cX1_columnSet 6 = .ok (.lreturn, 1) := by decide +kernel
theorem dX1_spread_0 : decode cX1_spread 0 = .ok (.lload_n 1, 1) := by decide +kernel
theorem dX1_spread_1 : decode cX1_spread 1 = .ok (.lload_n 1, 1) := by decide +kernel
theorem dX1_spread_2 : decode cX1_spread 2 = .ok (.aload_n 0, 1) := by decide +kernel
theorem dX1_spread_3 : decode cX1_spread 3 = .ok (.getfield 28, 3) := by decide +kernel
theorem dX1_spread_6 : decode cX1_spread 6 = .ok (.ldc2_w 34, 3) := by decide +kernel
theorem dX1_spread_9 : decode cX1_spread 9 = .ok (.lxor, 1) := by decide +kernel
theorem dX1_spread_10 : decode cX1_spread 10 = .ok (.land, 1) := by decide +kernel
theorem dX1_spread_11 : decode cX1_spread 11 = .ok (.iconst 1, 1) := by decide +kernel
theorem dX1_spread_12 : decode cX1_spread 12 = .ok (.lshl, 1) := by decide +kernel
theorem dX1_spread_13 : decode cX1_spread 13 = .ok (.lor, 1) := by decide +kernel
theorem dX1_spread_14 : decode cX1_spread 14 = .ok (.lload_n 1, 1) := by decide +kernel
theorem dX1_spread_15 : decode cX1_spread 15 = .ok (.aload_n 0, 1) := by decide +kernel
theorem dX1_spread_16 : decode cX1_spread 16 = .ok (.getfield 25, 3) := by decide +kernel
theorem dX1_spread_19 : decode cX1_spread 19 = .ok (.ldc2_w 34, 3) := by decide +kernel
theorem dX1_spread_22 : decode cX1_spread 22 = .ok (.lxor, 1) := by decide +kernel
theorem dX1_spread_23 : decode cX1_spread 23 = .ok (.land, 1) := by decide +kernel
theorem dX1_spread_24 : decode cX1_spread 24 = .ok (.iconst 1, 1) := by decide +kernel
theorem dX1_spread_25 : decode cX1_spread 25 = .ok (.lushr, 1) := by decide +kernel
theorem dX1_spread_26 : decode cX1_spread 26 = .ok (.lor, 1) := by decide +kernel
theorem dX1_spread_27 : decode cX1_spread 27 = .ok (.lstore 4, 2) := by decide +kernel
theorem dX1_spread_29 : decode cX1_spread 29 = .ok (.iload_n 3, 1) := by decide +kernel
theorem dX1_spread_30 : decode cX1_spread 30 = .ok (.ifCond .eq 8, 3) := by decide +kernel
theorem dX1_spread_33 : decode cX1_spread 33 = .ok (.lload 4, 2) := by decide +kernel
theorem dX1_spread_35 : decode cX1_spread 35 = .ok (.goto 4, 3) := by decide +kernel
theorem dX1_spread_38 : decode cX1_spread 38 = .ok (.lload_n 1, 1) := by decide +kernel
theorem dX1_spread_39 : decode cX1_spread 39 = .ok (.lstore 6, 2) := by decide +kernel
theorem dX1_spread_41 : decode cX1_spread 41 = .ok (.lload 4, 2) := by decide +kernel
theorem dX1_spread_43 : decode cX1_spread 43 = .ok (.lload 6, 2) := by decide +kernel
theorem dX1_spread_45 : decode cX1_spread 45 = .ok (.aload_n 0, 1) := by decide +kernel
theorem dX1_spread_46 : decode cX1_spread 46 = .ok (.getfield 9, 3) := by decide +kernel
theorem dX1_spread_49 : decode cX1_spread 49 = .ok (.lshl, 1) := by decide +kernel
theorem dX1_spread_50 : decode cX1_spread 50 = .ok (.lor, 1) := by decide +kernel
theorem dX1_spread_51 : decode cX1_spread 51 = .ok (.lload 6, 2) := by decide +kernel
theorem dX1_spread_53 : decode cX1_spread 53 = .ok (.aload_n 0, 1) := by decide +kernel
theorem dX1_spread_54 : decode cX1_spread 54 = .ok (.getfield 9, 3) := by decide +kernel
theorem dX1_spread_57 : decode cX1_spread 57 = .ok (.lushr, 1) := by decide +kernel
theorem dX1_spread_58 : decode cX1_spread 58 = .ok (.lor, 1) := by decide +kernel
theorem dX1_spread_59 : decode cX1_spread 59 = .ok (.lreturn, 1) := by decide +kernel
theorem dX1_connected_0 : decode cX1_connected 0 = .ok (.lload_n 1, 1) := by decide +kernel
theorem dX1_connected_1 : decode cX1_connected 1 = .ok (.lstore 6, 2) := by decide +kernel
theorem dX1_connected_3 : decode cX1_connected 3 = .ok (.iconst 0, 1) := by decide +kernel
theorem dX1_connected_4 : decode cX1_connected 4 = .ok (.istore 8, 2) := by decide +kernel
theorem dX1_connected_6 : decode cX1_connected 6 = .ok (.iload 8, 2) := by decide +kernel
theorem dX1_connected_8 : decode cX1_connected 8 = .ok (.bipush 64, 2) := by decide +kernel
theorem dX1_connected_10 : decode cX1_connected 10 = .ok (.if_icmp .ge 36, 3) := by decide +kernel
theorem dX1_connected_13 : decode cX1_connected 13 = .ok (.aload_n 0, 1) := by decide +kernel
theorem dX1_connected_14 : decode cX1_connected 14 = .ok (.lload 6, 2) := by decide +kernel
theorem dX1_connected_16 : decode cX1_connected 16 = .ok (.iload 5, 2) := by decide +kernel
theorem dX1_connected_18 : decode cX1_connected 18 = .ok (.invokevirtual 40, 3) := by decide +kernel
theorem dX1_connected_21 : decode cX1_connected 21 = .ok (.lload_n 3, 1) := by decide +kernel
theorem dX1_connected_22 : decode cX1_connected 22 = .ok (.land, 1) := by decide +kernel
theorem dX1_connected_23 : decode cX1_connected 23 = .ok (.lstore 9, 2) := by decide +kernel
theorem dX1_connected_25 : decode cX1_connected 25 = .ok (.lload 9, 2) := by decide +kernel
theorem dX1_connected_27 : decode cX1_connected 27 = .ok (.lload 6, 2) := by decide +kernel
theorem dX1_connected_29 : decode cX1_connected 29 = .ok (.lcmp, 1) := by decide +kernel
theorem dX1_connected_30 : decode cX1_connected 30 = .ok (.ifCond .ne 6, 3) := by decide +kernel
theorem dX1_connected_33 : decode cX1_connected 33 = .ok (.lload 6, 2) := by decide +kernel
theorem dX1_connected_35 : decode cX1_connected 35 = .ok (.lreturn, 1) := by decide +kernel
theorem dX1_connected_36 : decode cX1_connected 36 = .ok (.lload 9, 2) := by decide +kernel
theorem dX1_connected_38 : decode cX1_connected 38 = .ok (.lstore 6, 2) := by decide +kernel
theorem dX1_connected_40 : decode cX1_connected 40 = .ok (.iinc 8 1, 3) := by decide +kernel
theorem dX1_connected_43 : decode cX1_connected 43 = .ok (.goto (-37), 3) := by decide +kernel
theorem dX1_connected_46 : decode cX1_connected 46 = .ok (.lload 6, 2) := by decide +kernel
theorem dX1_connected_48 : decode cX1_connected 48 = .ok (.lreturn, 1) := by decide +kernel
theorem dX1_perimeterOf_0 : decode cX1_perimeterOf 0 = .ok (.lload_n 1, 1) := by decide +kernel
theorem dX1_perimeterOf_1 : decode cX1_perimeterOf 1 = .ok (.lload_n 1, 1) := by decide +kernel
theorem dX1_perimeterOf_2 : decode cX1_perimeterOf 2 = .ok (.aload_n 0, 1) := by decide +kernel
theorem dX1_perimeterOf_3 : decode cX1_perimeterOf 3 = .ok (.getfield 28, 3) := by decide +kernel
theorem dX1_perimeterOf_6 : decode cX1_perimeterOf 6 = .ok (.ldc2_w 34, 3) := by decide +kernel
theorem dX1_perimeterOf_9 : decode cX1_perimeterOf 9 = .ok (.lxor, 1) := by decide +kernel
theorem dX1_perimeterOf_10 : decode cX1_perimeterOf 10 = .ok (.land, 1) := by decide +kernel
theorem dX1_perimeterOf_11 : decode cX1_perimeterOf 11 = .ok (.iconst 1, 1) := by decide +kernel
theorem dX1_perimeterOf_12 : decode cX1_perimeterOf 12 = .ok (.lshl, 1) := by decide +kernel
theorem dX1_perimeterOf_13 : decode cX1_perimeterOf 13 = .ok (.land, 1) := by decide +kernel
theorem dX1_perimeterOf_14 : decode cX1_perimeterOf 14 = .ok (.invokestatic 44, 3) := by decide +kernel
theorem dX1_perimeterOf_17 : decode cX1_perimeterOf 17 = .ok (.istore_n 3, 1) := by decide +kernel
theorem dX1_perimeterOf_18 : decode cX1_perimeterOf 18 = .ok (.lload_n 1, 1) := by decide +kernel
theorem dX1_perimeterOf_19 : decode cX1_perimeterOf 19 = .ok (.lload_n 1, 1) := by decide +kernel
theorem dX1_perimeterOf_20 : decode cX1_perimeterOf 20 = .ok (.aload_n 0, 1) := by decide +kernel
theorem dX1_perimeterOf_21 : decode cX1_perimeterOf 21 = .ok (.getfield 9, 3) := by decide +kernel
theorem dX1_perimeterOf_24 : decode cX1_perimeterOf 24 = .ok (.lshl, 1) := by decide +kernel
theorem dX1_perimeterOf_25 : decode cX1_perimeterOf 25 = .ok (.land, 1) := by decide +kernel
theorem dX1_perimeterOf_26 : decode cX1_perimeterOf 26 = .ok (.invokestatic 44, 3) := by decide +kernel
theorem dX1_perimeterOf_29 : decode cX1_perimeterOf 29 = .ok (.istore 4, 2) := by decide +kernel
theorem dX1_perimeterOf_31 : decode cX1_perimeterOf 31 = .ok (.iconst 4, 1) := by decide +kernel
theorem dX1_perimeterOf_32 : decode cX1_perimeterOf 32 = .ok (.lload_n 1, 1) := by decide +kernel
theorem dX1_perimeterOf_33 : decode cX1_perimeterOf 33 = .ok (.invokestatic 44, 3) := by decide +kernel
theorem dX1_perimeterOf_36 : decode cX1_perimeterOf 36 = .ok (.imul, 1) := by decide +kernel
theorem dX1_perimeterOf_37 : decode cX1_perimeterOf 37 = .ok (.iconst 2, 1) := by decide +kernel
theorem dX1_perimeterOf_38 : decode cX1_perimeterOf 38 = .ok (.iload_n 3, 1) := by decide +kernel
theorem dX1_perimeterOf_39 : decode cX1_perimeterOf 39 = .ok (.iload 4, 2) := by decide +kernel
theorem dX1_perimeterOf_41 : decode cX1_perimeterOf 41 = .ok (.iadd, 1) := by decide +kernel
theorem dX1_perimeterOf_42 : decode cX1_perimeterOf 42 = .ok (.imul, 1) := by decide +kernel
theorem dX1_perimeterOf_43 : decode cX1_perimeterOf 43 = .ok (.isub, 1) := by decide +kernel
theorem dX1_perimeterOf_44 : decode cX1_perimeterOf 44 = .ok (.ireturn, 1) := by decide +kernel
theorem dX1_widthOf_0 : decode cX1_widthOf 0 = .ok (.iconst 0, 1) := by decide +kernel
theorem dX1_widthOf_1 : decode cX1_widthOf 1 = .ok (.istore_n 3, 1) := by decide +kernel
theorem dX1_widthOf_2 : decode cX1_widthOf 2 = .ok (.iconst 0, 1) := by decide +kernel
theorem dX1_widthOf_3 : decode cX1_widthOf 3 = .ok (.istore 4, 2) := by decide +kernel
theorem dX1_widthOf_5 : decode cX1_widthOf 5 = .ok (.iload 4, 2) := by decide +kernel
theorem dX1_widthOf_7 : decode cX1_widthOf 7 = .ok (.aload_n 0, 1) := by decide +kernel
theorem dX1_widthOf_8 : decode cX1_widthOf 8 = .ok (.getfield 9, 3) := by decide +kernel
theorem dX1_widthOf_11 : decode cX1_widthOf 11 = .ok (.if_icmp .ge 30, 3) := by decide +kernel
theorem dX1_widthOf_14 : decode cX1_widthOf 14 = .ok (.iload_n 3, 1) := by decide +kernel
theorem dX1_widthOf_15 : decode cX1_widthOf 15 = .ok (.lload_n 1, 1) := by decide +kernel
theorem dX1_widthOf_16 : decode cX1_widthOf 16 = .ok (.aload_n 0, 1) := by decide +kernel
theorem dX1_widthOf_17 : decode cX1_widthOf 17 = .ok (.iload 4, 2) := by decide +kernel
theorem dX1_widthOf_19 : decode cX1_widthOf 19 = .ok (.invokevirtual 50, 3) := by decide +kernel
theorem dX1_widthOf_22 : decode cX1_widthOf 22 = .ok (.land, 1) := by decide +kernel
theorem dX1_widthOf_23 : decode cX1_widthOf 23 = .ok (.lconst 0, 1) := by decide +kernel
theorem dX1_widthOf_24 : decode cX1_widthOf 24 = .ok (.lcmp, 1) := by decide +kernel
theorem dX1_widthOf_25 : decode cX1_widthOf 25 = .ok (.ifCond .ne 7, 3) := by decide +kernel
theorem dX1_widthOf_28 : decode cX1_widthOf 28 = .ok (.iconst 0, 1) := by decide +kernel
theorem dX1_widthOf_29 : decode cX1_widthOf 29 = .ok (.goto 4, 3) := by decide +kernel
theorem dX1_widthOf_32 : decode cX1_widthOf 32 = .ok (.iconst 1, 1) := by decide +kernel
theorem dX1_widthOf_33 : decode cX1_widthOf 33 = .ok (.iadd, 1) := by decide +kernel
theorem dX1_widthOf_34 : decode cX1_widthOf 34 = .ok (.istore_n 3, 1) := by decide +kernel
theorem dX1_widthOf_35 : decode cX1_widthOf 35 = .ok (.iinc 4 1, 3) := by decide +kernel
theorem dX1_widthOf_38 : decode cX1_widthOf 38 = .ok (.goto (-33), 3) := by decide +kernel
theorem dX1_widthOf_41 : decode cX1_widthOf 41 = .ok (.iload_n 3, 1) := by decide +kernel
theorem dX1_widthOf_42 : decode cX1_widthOf 42 = .ok (.ireturn, 1) := by decide +kernel
theorem dX1_tallnessOf_0 : decode cX1_tallnessOf 0 = .ok (.iconst 0, 1) := by decide +kernel
theorem dX1_tallnessOf_1 : decode cX1_tallnessOf 1 = .ok (.istore_n 3, 1) := by decide +kernel
theorem dX1_tallnessOf_2 : decode cX1_tallnessOf 2 = .ok (.iconst 0, 1) := by decide +kernel
theorem dX1_tallnessOf_3 : decode cX1_tallnessOf 3 = .ok (.istore 4, 2) := by decide +kernel
theorem dX1_tallnessOf_5 : decode cX1_tallnessOf 5 = .ok (.iload 4, 2) := by decide +kernel
theorem dX1_tallnessOf_7 : decode cX1_tallnessOf 7 = .ok (.aload_n 0, 1) := by decide +kernel
theorem dX1_tallnessOf_8 : decode cX1_tallnessOf 8 = .ok (.getfield 15, 3) := by decide +kernel
theorem dX1_tallnessOf_11 : decode cX1_tallnessOf 11 = .ok (.if_icmp .ge 30, 3) := by decide +kernel
theorem dX1_tallnessOf_14 : decode cX1_tallnessOf 14 = .ok (.iload_n 3, 1) := by decide +kernel
theorem dX1_tallnessOf_15 : decode cX1_tallnessOf 15 = .ok (.lload_n 1, 1) := by decide +kernel
theorem dX1_tallnessOf_16 : decode cX1_tallnessOf 16 = .ok (.aload_n 0, 1) := by decide +kernel
theorem dX1_tallnessOf_17 : decode cX1_tallnessOf 17 = .ok (.iload 4, 2) := by decide +kernel
theorem dX1_tallnessOf_19 : decode cX1_tallnessOf 19 = .ok (.invokevirtual 36, 3) := by decide +kernel
theorem dX1_tallnessOf_22 : decode cX1_tallnessOf 22 = .ok (.land, 1) := by decide +kernel
theorem dX1_tallnessOf_23 : decode cX1_tallnessOf 23 = .ok (.lconst 0, 1) := by decide +kernel
theorem dX1_tallnessOf_24 : decode cX1_tallnessOf 24 = .ok (.lcmp, 1) := by decide +kernel
theorem dX1_tallnessOf_25 : decode cX1_tallnessOf 25 = .ok (.ifCond .ne 7, 3) := by decide +kernel
theorem dX1_tallnessOf_28 : decode cX1_tallnessOf 28 = .ok (.iconst 0, 1) := by decide +kernel
theorem dX1_tallnessOf_29 : decode cX1_tallnessOf 29 = .ok (.goto 4, 3) := by decide +kernel
theorem dX1_tallnessOf_32 : decode cX1_tallnessOf 32 = .ok (.iconst 1, 1) := by decide +kernel
theorem dX1_tallnessOf_33 : decode cX1_tallnessOf 33 = .ok (.iadd, 1) := by decide +kernel
theorem dX1_tallnessOf_34 : decode cX1_tallnessOf 34 = .ok (.istore_n 3, 1) := by decide +kernel
theorem dX1_tallnessOf_35 : decode cX1_tallnessOf 35 = .ok (.iinc 4 1, 3) := by decide +kernel
theorem dX1_tallnessOf_38 : decode cX1_tallnessOf 38 = .ok (.goto (-33), 3) := by decide +kernel
theorem dX1_tallnessOf_41 : decode cX1_tallnessOf 41 = .ok (.iload_n 3, 1) := by decide +kernel
theorem dX1_tallnessOf_42 : decode cX1_tallnessOf 42 = .ok (.ireturn, 1) := by decide +kernel
theorem dX1_holesOf_0 : decode cX1_holesOf 0 = .ok (.iconst 0, 1) := by decide +kernel
theorem dX1_holesOf_1 : decode cX1_holesOf 1 = .ok (.istore 4, 2) := by decide +kernel
theorem dX1_holesOf_3 : decode cX1_holesOf 3 = .ok (.aload_n 0, 1) := by decide +kernel
theorem dX1_holesOf_4 : decode cX1_holesOf 4 = .ok (.getfield 21, 3) := by decide +kernel
theorem dX1_holesOf_7 : decode cX1_holesOf 7 = .ok (.lload_n 1, 1) := by decide +kernel
theorem dX1_holesOf_8 : decode cX1_holesOf 8 = .ok (.ldc2_w 34, 3) := by decide +kernel
theorem dX1_holesOf_11 : decode cX1_holesOf 11 = .ok (.lxor, 1) := by decide +kernel
theorem dX1_holesOf_12 : decode cX1_holesOf 12 = .ok (.land, 1) := by decide +kernel
theorem dX1_holesOf_13 : decode cX1_holesOf 13 = .ok (.lstore 5, 2) := by decide +kernel
theorem dX1_holesOf_15 : decode cX1_holesOf 15 = .ok (.iconst 0, 1) := by decide +kernel
theorem dX1_holesOf_16 : decode cX1_holesOf 16 = .ok (.istore 7, 2) := by decide +kernel
theorem dX1_holesOf_18 : decode cX1_holesOf 18 = .ok (.iload 7, 2) := by decide +kernel
theorem dX1_holesOf_20 : decode cX1_holesOf 20 = .ok (.aload_n 0, 1) := by decide +kernel
theorem dX1_holesOf_21 : decode cX1_holesOf 21 = .ok (.getfield 18, 3) := by decide +kernel
theorem dX1_holesOf_24 : decode cX1_holesOf 24 = .ok (.if_icmp .ge 84, 3) := by decide +kernel
theorem dX1_holesOf_27 : decode cX1_holesOf 27 = .ok (.lload 5, 2) := by decide +kernel
theorem dX1_holesOf_29 : decode cX1_holesOf 29 = .ok (.lconst 0, 1) := by decide +kernel
theorem dX1_holesOf_30 : decode cX1_holesOf 30 = .ok (.lcmp, 1) := by decide +kernel
theorem dX1_holesOf_31 : decode cX1_holesOf 31 = .ok (.ifCond .eq 77, 3) := by decide +kernel
theorem dX1_holesOf_34 : decode cX1_holesOf 34 = .ok (.lconst 1, 1) := by decide +kernel
theorem dX1_holesOf_35 : decode cX1_holesOf 35 = .ok (.iload 7, 2) := by decide +kernel
theorem dX1_holesOf_37 : decode cX1_holesOf 37 = .ok (.lshl, 1) := by decide +kernel
theorem dX1_holesOf_38 : decode cX1_holesOf 38 = .ok (.lstore 8, 2) := by decide +kernel
theorem dX1_holesOf_40 : decode cX1_holesOf 40 = .ok (.lload 5, 2) := by decide +kernel
theorem dX1_holesOf_42 : decode cX1_holesOf 42 = .ok (.lload 8, 2) := by decide +kernel
theorem dX1_holesOf_44 : decode cX1_holesOf 44 = .ok (.land, 1) := by decide +kernel
theorem dX1_holesOf_45 : decode cX1_holesOf 45 = .ok (.lconst 0, 1) := by decide +kernel
theorem dX1_holesOf_46 : decode cX1_holesOf 46 = .ok (.lcmp, 1) := by decide +kernel
theorem dX1_holesOf_47 : decode cX1_holesOf 47 = .ok (.ifCond .eq 55, 3) := by decide +kernel
theorem dX1_holesOf_50 : decode cX1_holesOf 50 = .ok (.aload_n 0, 1) := by decide +kernel
theorem dX1_holesOf_51 : decode cX1_holesOf 51 = .ok (.lload 8, 2) := by decide +kernel
theorem dX1_holesOf_53 : decode cX1_holesOf 53 = .ok (.lload 5, 2) := by decide +kernel
theorem dX1_holesOf_55 : decode cX1_holesOf 55 = .ok (.iload_n 3, 1) := by decide +kernel
theorem dX1_holesOf_56 : decode cX1_holesOf 56 = .ok (.ifCond .ne 7, 3) := by decide +kernel
theorem dX1_holesOf_59 : decode cX1_holesOf 59 = .ok (.iconst 1, 1) := by decide +kernel
theorem dX1_holesOf_60 : decode cX1_holesOf 60 = .ok (.goto 4, 3) := by decide +kernel
theorem dX1_holesOf_63 : decode cX1_holesOf 63 = .ok (.iconst 0, 1) := by decide +kernel
theorem dX1_holesOf_64 : decode cX1_holesOf 64 = .ok (.invokevirtual 53, 3) := by decide +kernel
theorem dX1_holesOf_67 : decode cX1_holesOf 67 = .ok (.lstore 10, 2) := by decide +kernel
theorem dX1_holesOf_69 : decode cX1_holesOf 69 = .ok (.iload 4, 2) := by decide +kernel
theorem dX1_holesOf_71 : decode cX1_holesOf 71 = .ok (.lload 10, 2) := by decide +kernel
theorem dX1_holesOf_73 : decode cX1_holesOf 73 = .ok (.aload_n 0, 1) := by decide +kernel
theorem dX1_holesOf_74 : decode cX1_holesOf 74 = .ok (.getfield 31, 3) := by decide +kernel
theorem dX1_holesOf_77 : decode cX1_holesOf 77 = .ok (.land, 1) := by decide +kernel
theorem dX1_holesOf_78 : decode cX1_holesOf 78 = .ok (.lconst 0, 1) := by decide +kernel
theorem dX1_holesOf_79 : decode cX1_holesOf 79 = .ok (.lcmp, 1) := by decide +kernel
theorem dX1_holesOf_80 : decode cX1_holesOf 80 = .ok (.ifCond .ne 7, 3) := by decide +kernel
theorem dX1_holesOf_83 : decode cX1_holesOf 83 = .ok (.iconst 1, 1) := by decide +kernel
theorem dX1_holesOf_84 : decode cX1_holesOf 84 = .ok (.goto 4, 3) := by decide +kernel
theorem dX1_holesOf_87 : decode cX1_holesOf 87 = .ok (.iconst 0, 1) := by decide +kernel
theorem dX1_holesOf_88 : decode cX1_holesOf 88 = .ok (.iadd, 1) := by decide +kernel
theorem dX1_holesOf_89 : decode cX1_holesOf 89 = .ok (.istore 4, 2) := by decide +kernel
theorem dX1_holesOf_91 : decode cX1_holesOf 91 = .ok (.lload 5, 2) := by decide +kernel
theorem dX1_holesOf_93 : decode cX1_holesOf 93 = .ok (.lload 10, 2) := by decide +kernel
theorem dX1_holesOf_95 : decode cX1_holesOf 95 = .ok (.ldc2_w 34, 3) := by decide +kernel
theorem dX1_holesOf_98 : decode cX1_holesOf 98 = .ok (.lxor, 1) := by decide +kernel
theorem dX1_holesOf_99 : decode cX1_holesOf 99 = .ok (.land, 1) := by decide +kernel
theorem dX1_holesOf_100 : decode cX1_holesOf 100 = .ok (.lstore 5, 2) := by decide +kernel
theorem dX1_holesOf_102 : decode cX1_holesOf 102 = .ok (.iinc 7 1, 3) := by decide +kernel
theorem dX1_holesOf_105 : decode cX1_holesOf 105 = .ok (.goto (-87), 3) := by decide +kernel
theorem dX1_holesOf_108 : decode cX1_holesOf 108 = .ok (.iload 4, 2) := by decide +kernel
theorem dX1_holesOf_110 : decode cX1_holesOf 110 = .ok (.ireturn, 1) := by decide +kernel
theorem dX2_init_0 : decode cX2_init 0 = .ok (.aload_n 0, 1) := by decide +kernel
theorem dX2_init_1 : decode cX2_init 1 = .ok (.invokespecial 3, 3) := by decide +kernel
theorem dX2_init_4 : decode cX2_init 4 = .ok (.aload_n 0, 1) := by decide +kernel
theorem dX2_init_5 : decode cX2_init 5 = .ok (.bipush 8, 2) := by decide +kernel
theorem dX2_init_7 : decode cX2_init 7 = .ok (.anewarray 9, 3) := by decide +kernel
theorem dX2_init_10 : decode cX2_init 10 = .ok (.putfield 11, 3) := by decide +kernel
theorem dX2_init_13 : decode cX2_init 13 = .ok (.aload_n 0, 1) := by decide +kernel
theorem dX2_init_14 : decode cX2_init 14 = .ok (.iconst 0, 1) := by decide +kernel
theorem dX2_init_15 : decode cX2_init 15 = .ok (.putfield 17, 3) := by decide +kernel
theorem dX2_init_18 : decode cX2_init 18 = .ok (.aload_n 0, 1) := by decide +kernel
theorem dX2_init_19 : decode cX2_init 19 = .ok (.iconst 0, 1) := by decide +kernel
theorem dX2_init_20 : decode cX2_init 20 = .ok (.putfield 21, 3) := by decide +kernel
theorem dX2_init_23 : decode cX2_init 23 = .ok (.iconst 0, 1) := by decide +kernel
theorem dX2_init_24 : decode cX2_init 24 = .ok (.istore_n 1, 1) := by decide +kernel
theorem dX2_init_25 : decode cX2_init 25 = .ok (.iload_n 1, 1) := by decide +kernel
theorem dX2_init_26 : decode cX2_init 26 = .ok (.bipush 8, 2) := by decide +kernel
theorem dX2_init_28 : decode cX2_init 28 = .ok (.if_icmp .ge 22, 3) := by decide +kernel
theorem dX2_init_31 : decode cX2_init 31 = .ok (.aload_n 0, 1) := by decide +kernel
theorem dX2_init_32 : decode cX2_init 32 = .ok (.getfield 11, 3) := by decide +kernel
theorem dX2_init_35 : decode cX2_init 35 = .ok (.iload_n 1, 1) := by decide +kernel
theorem dX2_init_36 : decode cX2_init 36 = .ok (.new 9, 3) := by decide +kernel
theorem dX2_init_39 : decode cX2_init 39 = .ok (.dup, 1) := by decide +kernel
theorem dX2_init_40 : decode cX2_init 40 = .ok (.invokespecial 24, 3) := by decide +kernel
theorem dX2_init_43 : decode cX2_init 43 = .ok (.aastore, 1) := by decide +kernel
theorem dX2_init_44 : decode cX2_init 44 = .ok (.iinc 1 1, 3) := by decide +kernel
theorem dX2_init_47 : decode cX2_init 47 = .ok (.goto (-22), 3) := by decide +kernel
theorem dX2_init_50 : decode cX2_init 50 = .ok (.return_, 1) := by decide +kernel
theorem dX2_keep_0 : decode cX2_keep 0 = .ok (.aload_n 0, 1) := by decide +kernel
theorem dX2_keep_1 : decode cX2_keep 1 = .ok (.getfield 11, 3) := by decide +kernel
theorem dX2_keep_4 : decode cX2_keep 4 = .ok (.aload_n 0, 1) := by decide +kernel
theorem dX2_keep_5 : decode cX2_keep 5 = .ok (.getfield 17, 3) := by decide +kernel
theorem dX2_keep_8 : decode cX2_keep 8 = .ok (.aaload, 1) := by decide +kernel
theorem dX2_keep_9 : decode cX2_keep 9 = .ok (.aload_n 1, 1) := by decide +kernel
theorem dX2_keep_10 : decode cX2_keep 10 = .ok (.invokevirtual 25, 3) := by decide +kernel
theorem dX2_keep_13 : decode cX2_keep 13 = .ok (.aload_n 0, 1) := by decide +kernel
theorem dX2_keep_14 : decode cX2_keep 14 = .ok (.aload_n 0, 1) := by decide +kernel
theorem dX2_keep_15 : decode cX2_keep 15 = .ok (.getfield 17, 3) := by decide +kernel
theorem dX2_keep_18 : decode cX2_keep 18 = .ok (.iconst 1, 1) := by decide +kernel
theorem dX2_keep_19 : decode cX2_keep 19 = .ok (.iadd, 1) := by decide +kernel
theorem dX2_keep_20 : decode cX2_keep 20 = .ok (.bipush 8, 2) := by decide +kernel
theorem dX2_keep_22 : decode cX2_keep 22 = .ok (.irem, 1) := by decide +kernel
theorem dX2_keep_23 : decode cX2_keep 23 = .ok (.putfield 17, 3) := by decide +kernel
theorem dX2_keep_26 : decode cX2_keep 26 = .ok (.aload_n 0, 1) := by decide +kernel
theorem dX2_keep_27 : decode cX2_keep 27 = .ok (.aload_n 0, 1) := by decide +kernel
theorem dX2_keep_28 : decode cX2_keep 28 = .ok (.getfield 21, 3) := by decide +kernel
theorem dX2_keep_31 : decode cX2_keep 31 = .ok (.iconst 1, 1) := by decide +kernel
theorem dX2_keep_32 : decode cX2_keep 32 = .ok (.iadd, 1) := by decide +kernel
theorem dX2_keep_33 : decode cX2_keep 33 = .ok (.bipush 8, 2) := by decide +kernel
theorem dX2_keep_35 : decode cX2_keep 35 = .ok (.invokestatic 29, 3) := by decide +kernel
theorem dX2_keep_38 : decode cX2_keep 38 = .ok (.putfield 21, 3) := by decide +kernel
theorem dX2_keep_41 : decode cX2_keep 41 = .ok (.return_, 1) := by decide +kernel
theorem dX2_giveBack_0 : decode cX2_giveBack 0 = .ok (.aload_n 0, 1) := by decide +kernel
theorem dX2_giveBack_1 : decode cX2_giveBack 1 = .ok (.aload_n 0, 1) := by decide +kernel
theorem dX2_giveBack_2 : decode cX2_giveBack 2 = .ok (.getfield 17, 3) := by decide +kernel
theorem dX2_giveBack_5 : decode cX2_giveBack 5 = .ok (.bipush 8, 2) := by decide +kernel
theorem dX2_giveBack_7 : decode cX2_giveBack 7 = .ok (.iadd, 1) := by decide +kernel
theorem dX2_giveBack_8 : decode cX2_giveBack 8 = .ok (.iconst 1, 1) := by decide +kernel
theorem dX2_giveBack_9 : decode cX2_giveBack 9 = .ok (.isub, 1) := by decide +kernel
theorem dX2_giveBack_10 : decode cX2_giveBack 10 = .ok (.bipush 8, 2) := by decide +kernel
theorem dX2_giveBack_12 : decode cX2_giveBack 12 = .ok (.irem, 1) := by decide +kernel
theorem dX2_giveBack_13 : decode cX2_giveBack 13 = .ok (.putfield 17, 3) := by decide +kernel
theorem dX2_giveBack_16 : decode cX2_giveBack 16 = .ok (.aload_n 0, 1) := by decide +kernel
theorem dX2_giveBack_17 : decode cX2_giveBack 17 = .ok (.aload_n 0, 1) := by decide +kernel
theorem dX2_giveBack_18 : decode cX2_giveBack 18 = .ok (.getfield 21, 3) := by decide +kernel
theorem dX2_giveBack_21 : decode cX2_giveBack 21 = .ok (.iconst 1, 1) := by decide +kernel
theorem dX2_giveBack_22 : decode cX2_giveBack 22 = .ok (.isub, 1) := by decide +kernel
theorem dX2_giveBack_23 : decode cX2_giveBack 23 = .ok (.putfield 21, 3) := by decide +kernel
theorem dX2_giveBack_26 : decode cX2_giveBack 26 = .ok (.aload_n 1, 1) := by decide +kernel
theorem dX2_giveBack_27 : decode cX2_giveBack 27 = .ok (.aload_n 0, 1) := by decide +kernel
theorem dX2_giveBack_28 : decode cX2_giveBack 28 = .ok (.getfield 11, 3) := by decide +kernel
theorem dX2_giveBack_31 : decode cX2_giveBack 31 = .ok (.aload_n 0, 1) := by decide +kernel
theorem dX2_giveBack_32 : decode cX2_giveBack 32 = .ok (.getfield 17, 3) := by decide +kernel
theorem dX2_giveBack_35 : decode cX2_giveBack 35 = .ok (.aaload, 1) := by decide +kernel
theorem dX2_giveBack_36 : decode cX2_giveBack 36 = .ok (.invokevirtual 25, 3) := by decide +kernel
theorem dX2_giveBack_39 : decode cX2_giveBack 39 = .ok (.return_, 1) := by decide +kernel
theorem dX3_init_0 : decode cX3_init 0 = .ok (.aload_n 0, 1) := by decide +kernel
theorem dX3_init_1 : decode cX3_init 1 = .ok (.invokespecial 3, 3) := by decide +kernel
theorem dX3_init_4 : decode cX3_init 4 = .ok (.aload_n 0, 1) := by decide +kernel
theorem dX3_init_5 : decode cX3_init 5 = .ok (.bipush 72, 2) := by decide +kernel
theorem dX3_init_7 : decode cX3_init 7 = .ok (.newarray .int, 2) := by decide +kernel
theorem dX3_init_9 : decode cX3_init 9 = .ok (.putfield 9, 3) := by decide +kernel
theorem dX3_init_12 : decode cX3_init 12 = .ok (.aload_n 0, 1) := by decide +kernel
theorem dX3_init_13 : decode cX3_init 13 = .ok (.iconst 0, 1) := by decide +kernel
theorem dX3_init_14 : decode cX3_init 14 = .ok (.putfield 15, 3) := by decide +kernel
theorem dX3_init_17 : decode cX3_init 17 = .ok (.aload_n 0, 1) := by decide +kernel
theorem dX3_init_18 : decode cX3_init 18 = .ok (.iconst 0, 1) := by decide +kernel
theorem dX3_init_19 : decode cX3_init 19 = .ok (.putfield 19, 3) := by decide +kernel
theorem dX3_init_22 : decode cX3_init 22 = .ok (.aload_n 0, 1) := by decide +kernel
theorem dX3_init_23 : decode cX3_init 23 = .ok (.iconst 0, 1) := by decide +kernel
theorem dX3_init_24 : decode cX3_init 24 = .ok (.putfield 22, 3) := by decide +kernel
theorem dX3_init_27 : decode cX3_init 27 = .ok (.aload_n 0, 1) := by decide +kernel
theorem dX3_init_28 : decode cX3_init 28 = .ok (.iconst 0, 1) := by decide +kernel
theorem dX3_init_29 : decode cX3_init 29 = .ok (.putfield 25, 3) := by decide +kernel
theorem dX3_init_32 : decode cX3_init 32 = .ok (.return_, 1) := by decide +kernel
theorem dX3_add_0 : decode cX3_add 0 = .ok (.aload_n 0, 1) := by decide +kernel
theorem dX3_add_1 : decode cX3_add 1 = .ok (.getfield 15, 3) := by decide +kernel
theorem dX3_add_4 : decode cX3_add 4 = .ok (.bipush 72, 2) := by decide +kernel
theorem dX3_add_6 : decode cX3_add 6 = .ok (.if_icmp .ge 23, 3) := by decide +kernel
theorem dX3_add_9 : decode cX3_add 9 = .ok (.aload_n 0, 1) := by decide +kernel
theorem dX3_add_10 : decode cX3_add 10 = .ok (.getfield 9, 3) := by decide +kernel
theorem dX3_add_13 : decode cX3_add 13 = .ok (.aload_n 0, 1) := by decide +kernel
theorem dX3_add_14 : decode cX3_add 14 = .ok (.getfield 15, 3) := by decide +kernel
theorem dX3_add_17 : decode cX3_add 17 = .ok (.iload_n 1, 1) := by decide +kernel
theorem dX3_add_18 : decode cX3_add 18 = .ok (.iastore, 1) := by decide +kernel
theorem dX3_add_19 : decode cX3_add 19 = .ok (.aload_n 0, 1) := by decide +kernel
theorem dX3_add_20 : decode cX3_add 20 = .ok (.dup, 1) := by decide +kernel
theorem dX3_add_21 : decode cX3_add 21 = .ok (.getfield 15, 3) := by decide +kernel
theorem dX3_add_24 : decode cX3_add 24 = .ok (.iconst 1, 1) := by decide +kernel
theorem dX3_add_25 : decode cX3_add 25 = .ok (.iadd, 1) := by decide +kernel
theorem dX3_add_26 : decode cX3_add 26 = .ok (.putfield 15, 3) := by decide +kernel
theorem dX3_add_29 : decode cX3_add 29 = .ok (.return_, 1) := by decide +kernel
theorem dX3_scan_0 : decode cX3_scan 0 = .ok (.aload_n 0, 1) := by decide +kernel
theorem dX3_scan_1 : decode cX3_scan 1 = .ok (.iconst 0, 1) := by decide +kernel
theorem dX3_scan_2 : decode cX3_scan 2 = .ok (.putfield 19, 3) := by decide +kernel
theorem dX3_scan_5 : decode cX3_scan 5 = .ok (.aload_n 0, 1) := by decide +kernel
theorem dX3_scan_6 : decode cX3_scan 6 = .ok (.iconst 1, 1) := by decide +kernel
theorem dX3_scan_7 : decode cX3_scan 7 = .ok (.putfield 22, 3) := by decide +kernel
theorem dX3_scan_10 : decode cX3_scan 10 = .ok (.aload_n 0, 1) := by decide +kernel
theorem dX3_scan_11 : decode cX3_scan 11 = .ok (.iconst 0, 1) := by decide +kernel
theorem dX3_scan_12 : decode cX3_scan 12 = .ok (.putfield 25, 3) := by decide +kernel
theorem dX3_scan_15 : decode cX3_scan 15 = .ok (.iconst 0, 1) := by decide +kernel
theorem dX3_scan_16 : decode cX3_scan 16 = .ok (.istore_n 1, 1) := by decide +kernel
theorem dX3_scan_17 : decode cX3_scan 17 = .ok (.iload_n 1, 1) := by decide +kernel
theorem dX3_scan_18 : decode cX3_scan 18 = .ok (.aload_n 0, 1) := by decide +kernel
theorem dX3_scan_19 : decode cX3_scan 19 = .ok (.getfield 15, 3) := by decide +kernel
theorem dX3_scan_22 : decode cX3_scan 22 = .ok (.if_icmp .ge 44, 3) := by decide +kernel
theorem dX3_scan_25 : decode cX3_scan 25 = .ok (.aload_n 0, 1) := by decide +kernel
theorem dX3_scan_26 : decode cX3_scan 26 = .ok (.getfield 9, 3) := by decide +kernel
theorem dX3_scan_29 : decode cX3_scan 29 = .ok (.iload_n 1, 1) := by decide +kernel
theorem dX3_scan_30 : decode cX3_scan 30 = .ok (.iaload, 1) := by decide +kernel
theorem dX3_scan_31 : decode cX3_scan 31 = .ok (.bipush 47, 2) := by decide +kernel
theorem dX3_scan_33 : decode cX3_scan 33 = .ok (.if_icmp .ne 10, 3) := by decide +kernel
theorem dX3_scan_36 : decode cX3_scan 36 = .ok (.aload_n 0, 1) := by decide +kernel
theorem dX3_scan_37 : decode cX3_scan 37 = .ok (.invokevirtual 28, 3) := by decide +kernel
theorem dX3_scan_40 : decode cX3_scan 40 = .ok (.goto 13, 3) := by decide +kernel
theorem dX3_scan_43 : decode cX3_scan 43 = .ok (.aload_n 0, 1) := by decide +kernel
theorem dX3_scan_44 : decode cX3_scan 44 = .ok (.aload_n 0, 1) := by decide +kernel
theorem dX3_scan_45 : decode cX3_scan 45 = .ok (.getfield 9, 3) := by decide +kernel
theorem dX3_scan_48 : decode cX3_scan 48 = .ok (.iload_n 1, 1) := by decide +kernel
theorem dX3_scan_49 : decode cX3_scan 49 = .ok (.iaload, 1) := by decide +kernel
theorem dX3_scan_50 : decode cX3_scan 50 = .ok (.invokevirtual 32, 3) := by decide +kernel
theorem dX3_scan_53 : decode cX3_scan 53 = .ok (.istore_n 2, 1) := by decide +kernel
theorem dX3_scan_54 : decode cX3_scan 54 = .ok (.iload_n 2, 1) := by decide +kernel
theorem dX3_scan_55 : decode cX3_scan 55 = .ok (.ifCond .ne 5, 3) := by decide +kernel
theorem dX3_scan_58 : decode cX3_scan 58 = .ok (.iload_n 1, 1) := by decide +kernel
theorem dX3_scan_59 : decode cX3_scan 59 = .ok (.ireturn, 1) := by decide +kernel
theorem dX3_scan_60 : decode cX3_scan 60 = .ok (.iinc 1 1, 3) := by decide +kernel
theorem dX3_scan_63 : decode cX3_scan 63 = .ok (.goto (-46), 3) := by decide +kernel
theorem dX3_scan_66 : decode cX3_scan 66 = .ok (.aload_n 0, 1) := by decide +kernel
theorem dX3_scan_67 : decode cX3_scan 67 = .ok (.getfield 15, 3) := by decide +kernel
theorem dX3_scan_70 : decode cX3_scan 70 = .ok (.ireturn, 1) := by decide +kernel
theorem dX3_takeSlash_0 : decode cX3_takeSlash 0 = .ok (.aload_n 0, 1) := by decide +kernel
theorem dX3_takeSlash_1 : decode cX3_takeSlash 1 = .ok (.getfield 25, 3) := by decide +kernel
theorem dX3_takeSlash_4 : decode cX3_takeSlash 4 = .ok (.ifCond .eq 23, 3) := by decide +kernel
theorem dX3_takeSlash_7 : decode cX3_takeSlash 7 = .ok (.aload_n 0, 1) := by decide +kernel
theorem dX3_takeSlash_8 : decode cX3_takeSlash 8 = .ok (.getfield 25, 3) := by decide +kernel
theorem dX3_takeSlash_11 : decode cX3_takeSlash 11 = .ok (.aload_n 0, 1) := by decide +kernel
theorem dX3_takeSlash_12 : decode cX3_takeSlash 12 = .ok (.getfield 19, 3) := by decide +kernel
theorem dX3_takeSlash_15 : decode cX3_takeSlash 15 = .ok (.if_icmp .lt 12, 3) := by decide +kernel
theorem dX3_takeSlash_18 : decode cX3_takeSlash 18 = .ok (.aload_n 0, 1) := by decide +kernel
theorem dX3_takeSlash_19 : decode cX3_takeSlash 19 = .ok (.getfield 22, 3) := by decide +kernel
theorem dX3_takeSlash_22 : decode cX3_takeSlash 22 = .ok (.bipush 8, 2) := by decide +kernel
theorem dX3_takeSlash_24 : decode cX3_takeSlash 24 = .ok (.if_icmp .ne 5, 3) := by decide +kernel
theorem dX3_takeSlash_27 : decode cX3_takeSlash 27 = .ok (.iconst 0, 1) := by decide +kernel
theorem dX3_takeSlash_28 : decode cX3_takeSlash 28 = .ok (.ireturn, 1) := by decide +kernel
theorem dX3_takeSlash_29 : decode cX3_takeSlash 29 = .ok (.aload_n 0, 1) := by decide +kernel
theorem dX3_takeSlash_30 : decode cX3_takeSlash 30 = .ok (.dup, 1) := by decide +kernel
theorem dX3_takeSlash_31 : decode cX3_takeSlash 31 = .ok (.getfield 22, 3) := by decide +kernel
theorem dX3_takeSlash_34 : decode cX3_takeSlash 34 = .ok (.iconst 1, 1) := by decide +kernel
theorem dX3_takeSlash_35 : decode cX3_takeSlash 35 = .ok (.iadd, 1) := by decide +kernel
theorem dX3_takeSlash_36 : decode cX3_takeSlash 36 = .ok (.putfield 22, 3) := by decide +kernel
theorem dX3_takeSlash_39 : decode cX3_takeSlash 39 = .ok (.aload_n 0, 1) := by decide +kernel
theorem dX3_takeSlash_40 : decode cX3_takeSlash 40 = .ok (.iconst 0, 1) := by decide +kernel
theorem dX3_takeSlash_41 : decode cX3_takeSlash 41 = .ok (.putfield 25, 3) := by decide +kernel
theorem dX3_takeSlash_44 : decode cX3_takeSlash 44 = .ok (.iconst 1, 1) := by decide +kernel
theorem dX3_takeSlash_45 : decode cX3_takeSlash 45 = .ok (.ireturn, 1) := by decide +kernel
theorem dX3_takeValue_0 : decode cX3_takeValue 0 = .ok (.aload_n 0, 1) := by decide +kernel
theorem dX3_takeValue_1 : decode cX3_takeValue 1 = .ok (.getfield 22, 3) := by decide +kernel
theorem dX3_takeValue_4 : decode cX3_takeValue 4 = .ok (.iconst 1, 1) := by decide +kernel
theorem dX3_takeValue_5 : decode cX3_takeValue 5 = .ok (.if_icmp .ne 8, 3) := by decide +kernel
theorem dX3_takeValue_8 : decode cX3_takeValue 8 = .ok (.bipush 8, 2) := by decide +kernel
theorem dX3_takeValue_10 : decode cX3_takeValue 10 = .ok (.goto 7, 3) := by decide +kernel
theorem dX3_takeValue_13 : decode cX3_takeValue 13 = .ok (.aload_n 0, 1) := by decide +kernel
theorem dX3_takeValue_14 : decode cX3_takeValue 14 = .ok (.getfield 19, 3) := by decide +kernel
theorem dX3_takeValue_17 : decode cX3_takeValue 17 = .ok (.istore_n 2, 1) := by decide +kernel
theorem dX3_takeValue_18 : decode cX3_takeValue 18 = .ok (.iload_n 1, 1) := by decide +kernel
theorem dX3_takeValue_19 : decode cX3_takeValue 19 = .ok (.invokestatic 36, 3) := by decide +kernel
theorem dX3_takeValue_22 : decode cX3_takeValue 22 = .ok (.iconst (-1), 1) := by decide +kernel
theorem dX3_takeValue_23 : decode cX3_takeValue 23 = .ok (.if_icmp .eq 11, 3) := by decide +kernel
theorem dX3_takeValue_26 : decode cX3_takeValue 26 = .ok (.aload_n 0, 1) := by decide +kernel
theorem dX3_takeValue_27 : decode cX3_takeValue 27 = .ok (.getfield 25, 3) := by decide +kernel
theorem dX3_takeValue_30 : decode cX3_takeValue 30 = .ok (.iload_n 2, 1) := by decide +kernel
theorem dX3_takeValue_31 : decode cX3_takeValue 31 = .ok (.if_icmp .lt 5, 3) := by decide +kernel
theorem dX3_takeValue_34 : decode cX3_takeValue 34 = .ok (.iconst 0, 1) := by decide +kernel
theorem dX3_takeValue_35 : decode cX3_takeValue 35 = .ok (.ireturn, 1) := by decide +kernel
theorem dX3_takeValue_36 : decode cX3_takeValue 36 = .ok (.aload_n 0, 1) := by decide +kernel
theorem dX3_takeValue_37 : decode cX3_takeValue 37 = .ok (.dup, 1) := by decide +kernel
theorem dX3_takeValue_38 : decode cX3_takeValue 38 = .ok (.getfield 25, 3) := by decide +kernel
theorem dX3_takeValue_41 : decode cX3_takeValue 41 = .ok (.iconst 1, 1) := by decide +kernel
theorem dX3_takeValue_42 : decode cX3_takeValue 42 = .ok (.iadd, 1) := by decide +kernel
theorem dX3_takeValue_43 : decode cX3_takeValue 43 = .ok (.putfield 25, 3) := by decide +kernel
theorem dX3_takeValue_46 : decode cX3_takeValue 46 = .ok (.aload_n 0, 1) := by decide +kernel
theorem dX3_takeValue_47 : decode cX3_takeValue 47 = .ok (.getfield 22, 3) := by decide +kernel
theorem dX3_takeValue_50 : decode cX3_takeValue 50 = .ok (.iconst 1, 1) := by decide +kernel
theorem dX3_takeValue_51 : decode cX3_takeValue 51 = .ok (.if_icmp .ne 11, 3) := by decide +kernel
theorem dX3_takeValue_54 : decode cX3_takeValue 54 = .ok (.aload_n 0, 1) := by decide +kernel
theorem dX3_takeValue_55 : decode cX3_takeValue 55 = .ok (.aload_n 0, 1) := by decide +kernel
theorem dX3_takeValue_56 : decode cX3_takeValue 56 = .ok (.getfield 25, 3) := by decide +kernel
theorem dX3_takeValue_59 : decode cX3_takeValue 59 = .ok (.putfield 19, 3) := by decide +kernel
theorem dX3_takeValue_62 : decode cX3_takeValue 62 = .ok (.iconst 1, 1) := by decide +kernel
theorem dX3_takeValue_63 : decode cX3_takeValue 63 = .ok (.ireturn, 1) := by decide +kernel
theorem dX3_isPicture_0 : decode cX3_isPicture 0 = .ok (.aload_n 0, 1) := by decide +kernel
theorem dX3_isPicture_1 : decode cX3_isPicture 1 = .ok (.invokevirtual 40, 3) := by decide +kernel
theorem dX3_isPicture_4 : decode cX3_isPicture 4 = .ok (.aload_n 0, 1) := by decide +kernel
theorem dX3_isPicture_5 : decode cX3_isPicture 5 = .ok (.getfield 15, 3) := by decide +kernel
theorem dX3_isPicture_8 : decode cX3_isPicture 8 = .ok (.if_icmp .ne 25, 3) := by decide +kernel
theorem dX3_isPicture_11 : decode cX3_isPicture 11 = .ok (.aload_n 0, 1) := by decide +kernel
theorem dX3_isPicture_12 : decode cX3_isPicture 12 = .ok (.getfield 25, 3) := by decide +kernel
theorem dX3_isPicture_15 : decode cX3_isPicture 15 = .ok (.ifCond .le 18, 3) := by decide +kernel
theorem dX3_isPicture_18 : decode cX3_isPicture 18 = .ok (.aload_n 0, 1) := by decide +kernel
theorem dX3_isPicture_19 : decode cX3_isPicture 19 = .ok (.getfield 25, 3) := by decide +kernel
theorem dX3_isPicture_22 : decode cX3_isPicture 22 = .ok (.aload_n 0, 1) := by decide +kernel
theorem dX3_isPicture_23 : decode cX3_isPicture 23 = .ok (.getfield 19, 3) := by decide +kernel
theorem dX3_isPicture_26 : decode cX3_isPicture 26 = .ok (.if_icmp .ne 7, 3) := by decide +kernel
theorem dX3_isPicture_29 : decode cX3_isPicture 29 = .ok (.iconst 1, 1) := by decide +kernel
theorem dX3_isPicture_30 : decode cX3_isPicture 30 = .ok (.goto 4, 3) := by decide +kernel
theorem dX3_isPicture_33 : decode cX3_isPicture 33 = .ok (.iconst 0, 1) := by decide +kernel
theorem dX3_isPicture_34 : decode cX3_isPicture 34 = .ok (.ireturn, 1) := by decide +kernel
theorem dX3_writeTo_0 : decode cX3_writeTo 0 = .ok (.aload_n 1, 1) := by decide +kernel
theorem dX3_writeTo_1 : decode cX3_writeTo 1 = .ok (.aload_n 0, 1) := by decide +kernel
theorem dX3_writeTo_2 : decode cX3_writeTo 2 = .ok (.getfield 19, 3) := by decide +kernel
theorem dX3_writeTo_5 : decode cX3_writeTo 5 = .ok (.aload_n 0, 1) := by decide +kernel
theorem dX3_writeTo_6 : decode cX3_writeTo 6 = .ok (.getfield 22, 3) := by decide +kernel
theorem dX3_writeTo_9 : decode cX3_writeTo 9 = .ok (.invokevirtual 44, 3) := by decide +kernel
theorem dX3_writeTo_12 : decode cX3_writeTo 12 = .ok (.iconst 0, 1) := by decide +kernel
theorem dX3_writeTo_13 : decode cX3_writeTo 13 = .ok (.istore_n 2, 1) := by decide +kernel
theorem dX3_writeTo_14 : decode cX3_writeTo 14 = .ok (.iload_n 2, 1) := by decide +kernel
theorem dX3_writeTo_15 : decode cX3_writeTo 15 = .ok (.aload_n 0, 1) := by decide +kernel
theorem dX3_writeTo_16 : decode cX3_writeTo 16 = .ok (.getfield 22, 3) := by decide +kernel
theorem dX3_writeTo_19 : decode cX3_writeTo 19 = .ok (.if_icmp .ge 60, 3) := by decide +kernel
theorem dX3_writeTo_22 : decode cX3_writeTo 22 = .ok (.iconst 0, 1) := by decide +kernel
theorem dX3_writeTo_23 : decode cX3_writeTo 23 = .ok (.istore_n 3, 1) := by decide +kernel
theorem dX3_writeTo_24 : decode cX3_writeTo 24 = .ok (.iload_n 3, 1) := by decide +kernel
theorem dX3_writeTo_25 : decode cX3_writeTo 25 = .ok (.aload_n 0, 1) := by decide +kernel
theorem dX3_writeTo_26 : decode cX3_writeTo 26 = .ok (.getfield 19, 3) := by decide +kernel
theorem dX3_writeTo_29 : decode cX3_writeTo 29 = .ok (.if_icmp .ge 44, 3) := by decide +kernel
theorem dX3_writeTo_32 : decode cX3_writeTo 32 = .ok (.aload_n 0, 1) := by decide +kernel
theorem dX3_writeTo_33 : decode cX3_writeTo 33 = .ok (.getfield 9, 3) := by decide +kernel
theorem dX3_writeTo_36 : decode cX3_writeTo 36 = .ok (.iload_n 2, 1) := by decide +kernel
theorem dX3_writeTo_37 : decode cX3_writeTo 37 = .ok (.aload_n 0, 1) := by decide +kernel
theorem dX3_writeTo_38 : decode cX3_writeTo 38 = .ok (.getfield 19, 3) := by decide +kernel
theorem dX3_writeTo_41 : decode cX3_writeTo 41 = .ok (.iconst 1, 1) := by decide +kernel
theorem dX3_writeTo_42 : decode cX3_writeTo 42 = .ok (.iadd, 1) := by decide +kernel
theorem dX3_writeTo_43 : decode cX3_writeTo 43 = .ok (.imul, 1) := by decide +kernel
theorem dX3_writeTo_44 : decode cX3_writeTo 44 = .ok (.iload_n 3, 1) := by decide +kernel
theorem dX3_writeTo_45 : decode cX3_writeTo 45 = .ok (.iadd, 1) := by decide +kernel
theorem dX3_writeTo_46 : decode cX3_writeTo 46 = .ok (.iaload, 1) := by decide +kernel
theorem dX3_writeTo_47 : decode cX3_writeTo 47 = .ok (.istore 4, 2) := by decide +kernel
theorem dX3_writeTo_49 : decode cX3_writeTo 49 = .ok (.aload_n 1, 1) := by decide +kernel
theorem dX3_writeTo_50 : decode cX3_writeTo 50 = .ok (.getfield 50, 3) := by decide +kernel
theorem dX3_writeTo_53 : decode cX3_writeTo 53 = .ok (.iload_n 2, 1) := by decide +kernel
theorem dX3_writeTo_54 : decode cX3_writeTo 54 = .ok (.aload_n 0, 1) := by decide +kernel
theorem dX3_writeTo_55 : decode cX3_writeTo 55 = .ok (.getfield 19, 3) := by decide +kernel
theorem dX3_writeTo_58 : decode cX3_writeTo 58 = .ok (.imul, 1) := by decide +kernel
theorem dX3_writeTo_59 : decode cX3_writeTo 59 = .ok (.iload_n 3, 1) := by decide +kernel
theorem dX3_writeTo_60 : decode cX3_writeTo 60 = .ok (.iadd, 1) := by decide +kernel
theorem dX3_writeTo_61 : decode cX3_writeTo 61 = .ok (.iload 4, 2) := by decide +kernel
theorem dX3_writeTo_63 : decode cX3_writeTo 63 = .ok (.invokestatic 36, 3) := by decide +kernel
theorem dX3_writeTo_66 : decode cX3_writeTo 66 = .ok (.iastore, 1) := by decide +kernel
theorem dX3_writeTo_67 : decode cX3_writeTo 67 = .ok (.iinc 3 1, 3) := by decide +kernel
theorem dX3_writeTo_70 : decode cX3_writeTo 70 = .ok (.goto (-46), 3) := by decide +kernel
theorem dX3_writeTo_73 : decode cX3_writeTo 73 = .ok (.iinc 2 1, 3) := by decide +kernel
theorem dX3_writeTo_76 : decode cX3_writeTo 76 = .ok (.goto (-62), 3) := by decide +kernel
theorem dX3_writeTo_79 : decode cX3_writeTo 79 = .ok (.return_, 1) := by decide +kernel
theorem dX3_valueOf_0 : decode cX3_valueOf 0 = .ok (.iload_n 0, 1) := by decide +kernel
theorem dX3_valueOf_1 : decode cX3_valueOf 1 = .ok (.bipush 48, 2) := by decide +kernel
theorem dX3_valueOf_3 : decode cX3_valueOf 3 = .ok (.if_icmp .lt 14, 3) := by decide +kernel
theorem dX3_valueOf_6 : decode cX3_valueOf 6 = .ok (.iload_n 0, 1) := by decide +kernel
theorem dX3_valueOf_7 : decode cX3_valueOf 7 = .ok (.bipush 57, 2) := by decide +kernel
theorem dX3_valueOf_9 : decode cX3_valueOf 9 = .ok (.if_icmp .gt 8, 3) := by decide +kernel
theorem dX3_valueOf_12 : decode cX3_valueOf 12 = .ok (.iload_n 0, 1) := by decide +kernel
theorem dX3_valueOf_13 : decode cX3_valueOf 13 = .ok (.bipush 48, 2) := by decide +kernel
theorem dX3_valueOf_15 : decode cX3_valueOf 15 = .ok (.isub, 1) := by decide +kernel
theorem dX3_valueOf_16 : decode cX3_valueOf 16 = .ok (.ireturn, 1) := by decide +kernel
theorem dX3_valueOf_17 : decode cX3_valueOf 17 = .ok (.iload_n 0, 1) := by decide +kernel
theorem dX3_valueOf_18 : decode cX3_valueOf 18 = .ok (.bipush 65, 2) := by decide +kernel
theorem dX3_valueOf_20 : decode cX3_valueOf 20 = .ok (.if_icmp .lt 19, 3) := by decide +kernel
theorem dX3_valueOf_23 : decode cX3_valueOf 23 = .ok (.iload_n 0, 1) := by decide +kernel
theorem dX3_valueOf_24 : decode cX3_valueOf 24 = .ok (.bipush 70, 2) := by decide +kernel
theorem dX3_valueOf_26 : decode cX3_valueOf 26 = .ok (.if_icmp .gt 13, 3) := by decide +kernel
theorem dX3_valueOf_29 : decode cX3_valueOf 29 = .ok (.iload_n 0, 1) := by decide +kernel
theorem dX3_valueOf_30 : decode cX3_valueOf 30 = .ok (.bipush 65, 2) := by decide +kernel
theorem dX3_valueOf_32 : decode cX3_valueOf 32 = .ok (.isub, 1) := by decide +kernel
theorem dX3_valueOf_33 : decode cX3_valueOf 33 = .ok (.bipush 10, 2) := by decide +kernel
theorem dX3_valueOf_35 : decode cX3_valueOf 35 = .ok (.iadd, 1) := by decide +kernel
theorem dX3_valueOf_36 : decode cX3_valueOf 36 = .ok (.goto 4, 3) := by decide +kernel
theorem dX3_valueOf_39 : decode cX3_valueOf 39 = .ok (.iconst (-1), 1) := by decide +kernel
theorem dX3_valueOf_40 : decode cX3_valueOf 40 = .ok (.ireturn, 1) := by decide +kernel
theorem dX4_init_0 : decode cX4_init 0 = .ok (.aload_n 0, 1) := by decide +kernel
theorem dX4_init_1 : decode cX4_init 1 = .ok (.invokespecial 3, 3) := by decide +kernel
theorem dX4_init_4 : decode cX4_init 4 = .ok (.aload_n 0, 1) := by decide +kernel
theorem dX4_init_5 : decode cX4_init 5 = .ok (.bipush 12, 2) := by decide +kernel
theorem dX4_init_7 : decode cX4_init 7 = .ok (.bipush 64, 2) := by decide +kernel
theorem dX4_init_9 : decode cX4_init 9 = .ok (.multianewarray 9 2, 4) := by decide +kernel
theorem dX4_init_13 : decode cX4_init 13 = .ok (.putfield 11, 3) := by decide +kernel
theorem dX4_init_16 : decode cX4_init 16 = .ok (.aload_n 0, 1) := by decide +kernel
theorem dX4_init_17 : decode cX4_init 17 = .ok (.bipush 64, 2) := by decide +kernel
theorem dX4_init_19 : decode cX4_init 19 = .ok (.newarray .int, 2) := by decide +kernel
theorem dX4_init_21 : decode cX4_init 21 = .ok (.putfield 16, 3) := by decide +kernel
theorem dX4_init_24 : decode cX4_init 24 = .ok (.aload_n 0, 1) := by decide +kernel
theorem dX4_init_25 : decode cX4_init 25 = .ok (.bipush 64, 2) := by decide +kernel
theorem dX4_init_27 : decode cX4_init 27 = .ok (.newarray .int, 2) := by decide +kernel
theorem dX4_init_29 : decode cX4_init 29 = .ok (.putfield 20, 3) := by decide +kernel
theorem dX4_init_32 : decode cX4_init 32 = .ok (.aload_n 0, 1) := by decide +kernel
theorem dX4_init_33 : decode cX4_init 33 = .ok (.bipush 64, 2) := by decide +kernel
theorem dX4_init_35 : decode cX4_init 35 = .ok (.newarray .int, 2) := by decide +kernel
theorem dX4_init_37 : decode cX4_init 37 = .ok (.putfield 23, 3) := by decide +kernel
theorem dX4_init_40 : decode cX4_init 40 = .ok (.return_, 1) := by decide +kernel
theorem dX4_measure_0 : decode cX4_measure 0 = .ok (.aload_n 0, 1) := by decide +kernel
theorem dX4_measure_1 : decode cX4_measure 1 = .ok (.aload_n 1, 1) := by decide +kernel
theorem dX4_measure_2 : decode cX4_measure 2 = .ok (.invokevirtual 26, 3) := by decide +kernel
theorem dX4_measure_5 : decode cX4_measure 5 = .ok (.aload_n 0, 1) := by decide +kernel
theorem dX4_measure_6 : decode cX4_measure 6 = .ok (.aload_n 1, 1) := by decide +kernel
theorem dX4_measure_7 : decode cX4_measure 7 = .ok (.invokevirtual 30, 3) := by decide +kernel
theorem dX4_measure_10 : decode cX4_measure 10 = .ok (.iconst 0, 1) := by decide +kernel
theorem dX4_measure_11 : decode cX4_measure 11 = .ok (.istore_n 2, 1) := by decide +kernel
theorem dX4_measure_12 : decode cX4_measure 12 = .ok (.iload_n 2, 1) := by decide +kernel
theorem dX4_measure_13 : decode cX4_measure 13 = .ok (.aload_n 1, 1) := by decide +kernel
theorem dX4_measure_14 : decode cX4_measure 14 = .ok (.getfield 33, 3) := by decide +kernel
theorem dX4_measure_17 : decode cX4_measure 17 = .ok (.if_icmp .ge 36, 3) := by decide +kernel
theorem dX4_measure_20 : decode cX4_measure 20 = .ok (.aload_n 0, 1) := by decide +kernel
theorem dX4_measure_21 : decode cX4_measure 21 = .ok (.aload_n 1, 1) := by decide +kernel
theorem dX4_measure_22 : decode cX4_measure 22 = .ok (.iload_n 2, 1) := by decide +kernel
theorem dX4_measure_23 : decode cX4_measure 23 = .ok (.invokevirtual 39, 3) := by decide +kernel
theorem dX4_measure_26 : decode cX4_measure 26 = .ok (.aload_n 0, 1) := by decide +kernel
theorem dX4_measure_27 : decode cX4_measure 27 = .ok (.aload_n 1, 1) := by decide +kernel
theorem dX4_measure_28 : decode cX4_measure 28 = .ok (.iload_n 2, 1) := by decide +kernel
theorem dX4_measure_29 : decode cX4_measure 29 = .ok (.invokevirtual 43, 3) := by decide +kernel
theorem dX4_measure_32 : decode cX4_measure 32 = .ok (.aload_n 0, 1) := by decide +kernel
theorem dX4_measure_33 : decode cX4_measure 33 = .ok (.getfield 11, 3) := by decide +kernel
theorem dX4_measure_36 : decode cX4_measure 36 = .ok (.bipush 11, 2) := by decide +kernel
theorem dX4_measure_38 : decode cX4_measure 38 = .ok (.aaload, 1) := by decide +kernel
theorem dX4_measure_39 : decode cX4_measure 39 = .ok (.iload_n 2, 1) := by decide +kernel
theorem dX4_measure_40 : decode cX4_measure 40 = .ok (.aload_n 0, 1) := by decide +kernel
theorem dX4_measure_41 : decode cX4_measure 41 = .ok (.aload_n 1, 1) := by decide +kernel
theorem dX4_measure_42 : decode cX4_measure 42 = .ok (.iload_n 2, 1) := by decide +kernel
theorem dX4_measure_43 : decode cX4_measure 43 = .ok (.invokevirtual 46, 3) := by decide +kernel
theorem dX4_measure_46 : decode cX4_measure 46 = .ok (.iastore, 1) := by decide +kernel
theorem dX4_measure_47 : decode cX4_measure 47 = .ok (.iinc 2 1, 3) := by decide +kernel
theorem dX4_measure_50 : decode cX4_measure 50 = .ok (.goto (-38), 3) := by decide +kernel
theorem dX4_measure_53 : decode cX4_measure 53 = .ok (.aload_n 0, 1) := by decide +kernel
theorem dX4_measure_54 : decode cX4_measure 54 = .ok (.aload_n 1, 1) := by decide +kernel
theorem dX4_measure_55 : decode cX4_measure 55 = .ok (.invokevirtual 50, 3) := by decide +kernel
theorem dX4_measure_58 : decode cX4_measure 58 = .ok (.return_, 1) := by decide +kernel
theorem dX4_findSummits_0 : decode cX4_findSummits 0 = .ok (.iconst 0, 1) := by decide +kernel
theorem dX4_findSummits_1 : decode cX4_findSummits 1 = .ok (.istore_n 2, 1) := by decide +kernel
theorem dX4_findSummits_2 : decode cX4_findSummits 2 = .ok (.iload_n 2, 1) := by decide +kernel
theorem dX4_findSummits_3 : decode cX4_findSummits 3 = .ok (.aload_n 1, 1) := by decide +kernel
theorem dX4_findSummits_4 : decode cX4_findSummits 4 = .ok (.getfield 33, 3) := by decide +kernel
theorem dX4_findSummits_7 : decode cX4_findSummits 7 = .ok (.if_icmp .ge 29, 3) := by decide +kernel
theorem dX4_findSummits_10 : decode cX4_findSummits 10 = .ok (.aload_n 0, 1) := by decide +kernel
theorem dX4_findSummits_11 : decode cX4_findSummits 11 = .ok (.getfield 20, 3) := by decide +kernel
theorem dX4_findSummits_14 : decode cX4_findSummits 14 = .ok (.iload_n 2, 1) := by decide +kernel
theorem dX4_findSummits_15 : decode cX4_findSummits 15 = .ok (.aload_n 1, 1) := by decide +kernel
theorem dX4_findSummits_16 : decode cX4_findSummits 16 = .ok (.getfield 53, 3) := by decide +kernel
theorem dX4_findSummits_19 : decode cX4_findSummits 19 = .ok (.iload_n 2, 1) := by decide +kernel
theorem dX4_findSummits_20 : decode cX4_findSummits 20 = .ok (.iaload, 1) := by decide +kernel
theorem dX4_findSummits_21 : decode cX4_findSummits 21 = .ok (.ifCond .ne 7, 3) := by decide +kernel
theorem dX4_findSummits_24 : decode cX4_findSummits 24 = .ok (.iload_n 2, 1) := by decide +kernel
theorem dX4_findSummits_25 : decode cX4_findSummits 25 = .ok (.goto 4, 3) := by decide +kernel
theorem dX4_findSummits_28 : decode cX4_findSummits 28 = .ok (.iconst (-1), 1) := by decide +kernel
theorem dX4_findSummits_29 : decode cX4_findSummits 29 = .ok (.iastore, 1) := by decide +kernel
theorem dX4_findSummits_30 : decode cX4_findSummits 30 = .ok (.iinc 2 1, 3) := by decide +kernel
theorem dX4_findSummits_33 : decode cX4_findSummits 33 = .ok (.goto (-31), 3) := by decide +kernel
theorem dX4_findSummits_36 : decode cX4_findSummits 36 = .ok (.aload_n 1, 1) := by decide +kernel
theorem dX4_findSummits_37 : decode cX4_findSummits 37 = .ok (.getfield 33, 3) := by decide +kernel
theorem dX4_findSummits_40 : decode cX4_findSummits 40 = .ok (.iconst 1, 1) := by decide +kernel
theorem dX4_findSummits_41 : decode cX4_findSummits 41 = .ok (.isub, 1) := by decide +kernel
theorem dX4_findSummits_42 : decode cX4_findSummits 42 = .ok (.istore_n 2, 1) := by decide +kernel
theorem dX4_findSummits_43 : decode cX4_findSummits 43 = .ok (.iload_n 2, 1) := by decide +kernel
theorem dX4_findSummits_44 : decode cX4_findSummits 44 = .ok (.ifCond .le 57, 3) := by decide +kernel
theorem dX4_findSummits_47 : decode cX4_findSummits 47 = .ok (.aload_n 1, 1) := by decide +kernel
theorem dX4_findSummits_48 : decode cX4_findSummits 48 = .ok (.getfield 56, 3) := by decide +kernel
theorem dX4_findSummits_51 : decode cX4_findSummits 51 = .ok (.iload_n 2, 1) := by decide +kernel
theorem dX4_findSummits_52 : decode cX4_findSummits 52 = .ok (.iaload, 1) := by decide +kernel
theorem dX4_findSummits_53 : decode cX4_findSummits 53 = .ok (.istore_n 3, 1) := by decide +kernel
theorem dX4_findSummits_54 : decode cX4_findSummits 54 = .ok (.aload_n 0, 1) := by decide +kernel
theorem dX4_findSummits_55 : decode cX4_findSummits 55 = .ok (.getfield 20, 3) := by decide +kernel
theorem dX4_findSummits_58 : decode cX4_findSummits 58 = .ok (.iload_n 3, 1) := by decide +kernel
theorem dX4_findSummits_59 : decode cX4_findSummits 59 = .ok (.iaload, 1) := by decide +kernel
theorem dX4_findSummits_60 : decode cX4_findSummits 60 = .ok (.iconst (-1), 1) := by decide +kernel
theorem dX4_findSummits_61 : decode cX4_findSummits 61 = .ok (.if_icmp .eq 22, 3) := by decide +kernel
theorem dX4_findSummits_64 : decode cX4_findSummits 64 = .ok (.aload_n 1, 1) := by decide +kernel
theorem dX4_findSummits_65 : decode cX4_findSummits 65 = .ok (.aload_n 0, 1) := by decide +kernel
theorem dX4_findSummits_66 : decode cX4_findSummits 66 = .ok (.getfield 20, 3) := by decide +kernel
theorem dX4_findSummits_69 : decode cX4_findSummits 69 = .ok (.iload_n 2, 1) := by decide +kernel
theorem dX4_findSummits_70 : decode cX4_findSummits 70 = .ok (.iaload, 1) := by decide +kernel
theorem dX4_findSummits_71 : decode cX4_findSummits 71 = .ok (.aload_n 0, 1) := by decide +kernel
theorem dX4_findSummits_72 : decode cX4_findSummits 72 = .ok (.getfield 20, 3) := by decide +kernel
theorem dX4_findSummits_75 : decode cX4_findSummits 75 = .ok (.iload_n 3, 1) := by decide +kernel
theorem dX4_findSummits_76 : decode cX4_findSummits 76 = .ok (.iaload, 1) := by decide +kernel
theorem dX4_findSummits_77 : decode cX4_findSummits 77 = .ok (.invokestatic 59, 3) := by decide +kernel
theorem dX4_findSummits_80 : decode cX4_findSummits 80 = .ok (.ifCond .eq 15, 3) := by decide +kernel
theorem dX4_findSummits_83 : decode cX4_findSummits 83 = .ok (.aload_n 0, 1) := by decide +kernel
theorem dX4_findSummits_84 : decode cX4_findSummits 84 = .ok (.getfield 20, 3) := by decide +kernel
theorem dX4_findSummits_87 : decode cX4_findSummits 87 = .ok (.iload_n 3, 1) := by decide +kernel
theorem dX4_findSummits_88 : decode cX4_findSummits 88 = .ok (.aload_n 0, 1) := by decide +kernel
theorem dX4_findSummits_89 : decode cX4_findSummits 89 = .ok (.getfield 20, 3) := by decide +kernel
theorem dX4_findSummits_92 : decode cX4_findSummits 92 = .ok (.iload_n 2, 1) := by decide +kernel
theorem dX4_findSummits_93 : decode cX4_findSummits 93 = .ok (.iaload, 1) := by decide +kernel
theorem dX4_findSummits_94 : decode cX4_findSummits 94 = .ok (.iastore, 1) := by decide +kernel
theorem dX4_findSummits_95 : decode cX4_findSummits 95 = .ok (.iinc 2 (-1), 3) := by decide +kernel
theorem dX4_findSummits_98 : decode cX4_findSummits 98 = .ok (.goto (-55), 3) := by decide +kernel
theorem dX4_findSummits_101 : decode cX4_findSummits 101 = .ok (.return_, 1) := by decide +kernel
theorem dX4_isHigher_0 : decode cX4_isHigher 0 = .ok (.aload_n 0, 1) := by decide +kernel
theorem dX4_isHigher_1 : decode cX4_isHigher 1 = .ok (.getfield 63, 3) := by decide +kernel
theorem dX4_isHigher_4 : decode cX4_isHigher 4 = .ok (.iload_n 1, 1) := by decide +kernel
theorem dX4_isHigher_5 : decode cX4_isHigher 5 = .ok (.iaload, 1) := by decide +kernel
theorem dX4_isHigher_6 : decode cX4_isHigher 6 = .ok (.aload_n 0, 1) := by decide +kernel
theorem dX4_isHigher_7 : decode cX4_isHigher 7 = .ok (.getfield 63, 3) := by decide +kernel
theorem dX4_isHigher_10 : decode cX4_isHigher 10 = .ok (.iload_n 2, 1) := by decide +kernel
theorem dX4_isHigher_11 : decode cX4_isHigher 11 = .ok (.iaload, 1) := by decide +kernel
theorem dX4_isHigher_12 : decode cX4_isHigher 12 = .ok (.isub, 1) := by decide +kernel
theorem dX4_isHigher_13 : decode cX4_isHigher 13 = .ok (.istore_n 3, 1) := by decide +kernel
theorem dX4_isHigher_14 : decode cX4_isHigher 14 = .ok (.iload_n 3, 1) := by decide +kernel
theorem dX4_isHigher_15 : decode cX4_isHigher 15 = .ok (.ifCond .gt 12, 3) := by decide +kernel
theorem dX4_isHigher_18 : decode cX4_isHigher 18 = .ok (.iload_n 3, 1) := by decide +kernel
theorem dX4_isHigher_19 : decode cX4_isHigher 19 = .ok (.ifCond .ne 12, 3) := by decide +kernel
theorem dX4_isHigher_22 : decode cX4_isHigher 22 = .ok (.iload_n 1, 1) := by decide +kernel
theorem dX4_isHigher_23 : decode cX4_isHigher 23 = .ok (.iload_n 2, 1) := by decide +kernel
theorem dX4_isHigher_24 : decode cX4_isHigher 24 = .ok (.if_icmp .ge 7, 3) := by decide +kernel
theorem dX4_isHigher_27 : decode cX4_isHigher 27 = .ok (.iconst 1, 1) := by decide +kernel
theorem dX4_isHigher_28 : decode cX4_isHigher 28 = .ok (.goto 4, 3) := by decide +kernel
theorem dX4_isHigher_31 : decode cX4_isHigher 31 = .ok (.iconst 0, 1) := by decide +kernel
theorem dX4_isHigher_32 : decode cX4_isHigher 32 = .ok (.ireturn, 1) := by decide +kernel
theorem dX4_addRanks_0 : decode cX4_addRanks 0 = .ok (.iconst 0, 1) := by decide +kernel
theorem dX4_addRanks_1 : decode cX4_addRanks 1 = .ok (.istore_n 2, 1) := by decide +kernel
theorem dX4_addRanks_2 : decode cX4_addRanks 2 = .ok (.iload_n 2, 1) := by decide +kernel
theorem dX4_addRanks_3 : decode cX4_addRanks 3 = .ok (.aload_n 1, 1) := by decide +kernel
theorem dX4_addRanks_4 : decode cX4_addRanks 4 = .ok (.getfield 33, 3) := by decide +kernel
theorem dX4_addRanks_7 : decode cX4_addRanks 7 = .ok (.if_icmp .ge 28, 3) := by decide +kernel
theorem dX4_addRanks_10 : decode cX4_addRanks 10 = .ok (.aload_n 0, 1) := by decide +kernel
theorem dX4_addRanks_11 : decode cX4_addRanks 11 = .ok (.getfield 23, 3) := by decide +kernel
theorem dX4_addRanks_14 : decode cX4_addRanks 14 = .ok (.iload_n 2, 1) := by decide +kernel
theorem dX4_addRanks_15 : decode cX4_addRanks 15 = .ok (.aload_n 1, 1) := by decide +kernel
theorem dX4_addRanks_16 : decode cX4_addRanks 16 = .ok (.getfield 66, 3) := by decide +kernel
theorem dX4_addRanks_19 : decode cX4_addRanks 19 = .ok (.iload_n 2, 1) := by decide +kernel
theorem dX4_addRanks_20 : decode cX4_addRanks 20 = .ok (.iaload, 1) := by decide +kernel
theorem dX4_addRanks_21 : decode cX4_addRanks 21 = .ok (.aload_n 1, 1) := by decide +kernel
theorem dX4_addRanks_22 : decode cX4_addRanks 22 = .ok (.getfield 63, 3) := by decide +kernel
theorem dX4_addRanks_25 : decode cX4_addRanks 25 = .ok (.iload_n 2, 1) := by decide +kernel
theorem dX4_addRanks_26 : decode cX4_addRanks 26 = .ok (.iaload, 1) := by decide +kernel
theorem dX4_addRanks_27 : decode cX4_addRanks 27 = .ok (.imul, 1) := by decide +kernel
theorem dX4_addRanks_28 : decode cX4_addRanks 28 = .ok (.iastore, 1) := by decide +kernel
theorem dX4_addRanks_29 : decode cX4_addRanks 29 = .ok (.iinc 2 1, 3) := by decide +kernel
theorem dX4_addRanks_32 : decode cX4_addRanks 32 = .ok (.goto (-30), 3) := by decide +kernel
theorem dX4_addRanks_35 : decode cX4_addRanks 35 = .ok (.aload_n 1, 1) := by decide +kernel
theorem dX4_addRanks_36 : decode cX4_addRanks 36 = .ok (.getfield 33, 3) := by decide +kernel
theorem dX4_addRanks_39 : decode cX4_addRanks 39 = .ok (.iconst 1, 1) := by decide +kernel
theorem dX4_addRanks_40 : decode cX4_addRanks 40 = .ok (.isub, 1) := by decide +kernel
theorem dX4_addRanks_41 : decode cX4_addRanks 41 = .ok (.istore_n 2, 1) := by decide +kernel
theorem dX4_addRanks_42 : decode cX4_addRanks 42 = .ok (.iload_n 2, 1) := by decide +kernel
theorem dX4_addRanks_43 : decode cX4_addRanks 43 = .ok (.ifCond .le 29, 3) := by decide +kernel
theorem dX4_addRanks_46 : decode cX4_addRanks 46 = .ok (.aload_n 0, 1) := by decide +kernel
theorem dX4_addRanks_47 : decode cX4_addRanks 47 = .ok (.getfield 23, 3) := by decide +kernel
theorem dX4_addRanks_50 : decode cX4_addRanks 50 = .ok (.aload_n 1, 1) := by decide +kernel
theorem dX4_addRanks_51 : decode cX4_addRanks 51 = .ok (.getfield 56, 3) := by decide +kernel
theorem dX4_addRanks_54 : decode cX4_addRanks 54 = .ok (.iload_n 2, 1) := by decide +kernel
theorem dX4_addRanks_55 : decode cX4_addRanks 55 = .ok (.iaload, 1) := by decide +kernel
theorem dX4_addRanks_56 : decode cX4_addRanks 56 = .ok (.dup2, 1) := by decide +kernel
theorem dX4_addRanks_57 : decode cX4_addRanks 57 = .ok (.iaload, 1) := by decide +kernel
theorem dX4_addRanks_58 : decode cX4_addRanks 58 = .ok (.aload_n 0, 1) := by decide +kernel
theorem dX4_addRanks_59 : decode cX4_addRanks 59 = .ok (.getfield 23, 3) := by decide +kernel
theorem dX4_addRanks_62 : decode cX4_addRanks 62 = .ok (.iload_n 2, 1) := by decide +kernel
theorem dX4_addRanks_63 : decode cX4_addRanks 63 = .ok (.iaload, 1) := by decide +kernel
theorem dX4_addRanks_64 : decode cX4_addRanks 64 = .ok (.iadd, 1) := by decide +kernel
theorem dX4_addRanks_65 : decode cX4_addRanks 65 = .ok (.iastore, 1) := by decide +kernel
theorem dX4_addRanks_66 : decode cX4_addRanks 66 = .ok (.iinc 2 (-1), 3) := by decide +kernel
theorem dX4_addRanks_69 : decode cX4_addRanks 69 = .ok (.goto (-27), 3) := by decide +kernel
theorem dX4_addRanks_72 : decode cX4_addRanks 72 = .ok (.return_, 1) := by decide +kernel
theorem dX4_measureTree_0 : decode cX4_measureTree 0 = .ok (.aload_n 1, 1) := by decide +kernel
theorem dX4_measureTree_1 : decode cX4_measureTree 1 = .ok (.getfield 69, 3) := by decide +kernel
theorem dX4_measureTree_4 : decode cX4_measureTree 4 = .ok (.iload_n 2, 1) := by decide +kernel
theorem dX4_measureTree_5 : decode cX4_measureTree 5 = .ok (.laload, 1) := by decide +kernel
theorem dX4_measureTree_6 : decode cX4_measureTree 6 = .ok (.invokestatic 73, 3) := by decide +kernel
theorem dX4_measureTree_9 : decode cX4_measureTree 9 = .ok (.istore_n 3, 1) := by decide +kernel
theorem dX4_measureTree_10 : decode cX4_measureTree 10 = .ok (.aload_n 0, 1) := by decide +kernel
theorem dX4_measureTree_11 : decode cX4_measureTree 11 = .ok (.getfield 11, 3) := by decide +kernel
theorem dX4_measureTree_14 : decode cX4_measureTree 14 = .ok (.iconst 0, 1) := by decide +kernel
theorem dX4_measureTree_15 : decode cX4_measureTree 15 = .ok (.aaload, 1) := by decide +kernel
theorem dX4_measureTree_16 : decode cX4_measureTree 16 = .ok (.iload_n 2, 1) := by decide +kernel
theorem dX4_measureTree_17 : decode cX4_measureTree 17 = .ok (.aload_n 1, 1) := by decide +kernel
theorem dX4_measureTree_18 : decode cX4_measureTree 18 = .ok (.getfield 63, 3) := by decide +kernel
theorem dX4_measureTree_21 : decode cX4_measureTree 21 = .ok (.iload_n 2, 1) := by decide +kernel
theorem dX4_measureTree_22 : decode cX4_measureTree 22 = .ok (.iaload, 1) := by decide +kernel
theorem dX4_measureTree_23 : decode cX4_measureTree 23 = .ok (.iastore, 1) := by decide +kernel
theorem dX4_measureTree_24 : decode cX4_measureTree 24 = .ok (.aload_n 0, 1) := by decide +kernel
theorem dX4_measureTree_25 : decode cX4_measureTree 25 = .ok (.getfield 11, 3) := by decide +kernel
theorem dX4_measureTree_28 : decode cX4_measureTree 28 = .ok (.iconst 1, 1) := by decide +kernel
theorem dX4_measureTree_29 : decode cX4_measureTree 29 = .ok (.aaload, 1) := by decide +kernel
theorem dX4_measureTree_30 : decode cX4_measureTree 30 = .ok (.iload_n 2, 1) := by decide +kernel
theorem dX4_measureTree_31 : decode cX4_measureTree 31 = .ok (.iload_n 3, 1) := by decide +kernel
theorem dX4_measureTree_32 : decode cX4_measureTree 32 = .ok (.iastore, 1) := by decide +kernel
theorem dX4_measureTree_33 : decode cX4_measureTree 33 = .ok (.aload_n 0, 1) := by decide +kernel
theorem dX4_measureTree_34 : decode cX4_measureTree 34 = .ok (.getfield 11, 3) := by decide +kernel
theorem dX4_measureTree_37 : decode cX4_measureTree 37 = .ok (.iconst 2, 1) := by decide +kernel
theorem dX4_measureTree_38 : decode cX4_measureTree 38 = .ok (.aaload, 1) := by decide +kernel
theorem dX4_measureTree_39 : decode cX4_measureTree 39 = .ok (.iload_n 2, 1) := by decide +kernel
theorem dX4_measureTree_40 : decode cX4_measureTree 40 = .ok (.aload_n 1, 1) := by decide +kernel
theorem dX4_measureTree_41 : decode cX4_measureTree 41 = .ok (.getfield 66, 3) := by decide +kernel
theorem dX4_measureTree_44 : decode cX4_measureTree 44 = .ok (.iload_n 2, 1) := by decide +kernel
theorem dX4_measureTree_45 : decode cX4_measureTree 45 = .ok (.iaload, 1) := by decide +kernel
theorem dX4_measureTree_46 : decode cX4_measureTree 46 = .ok (.iastore, 1) := by decide +kernel
theorem dX4_measureTree_47 : decode cX4_measureTree 47 = .ok (.aload_n 0, 1) := by decide +kernel
theorem dX4_measureTree_48 : decode cX4_measureTree 48 = .ok (.getfield 11, 3) := by decide +kernel
theorem dX4_measureTree_51 : decode cX4_measureTree 51 = .ok (.iconst 3, 1) := by decide +kernel
theorem dX4_measureTree_52 : decode cX4_measureTree 52 = .ok (.aaload, 1) := by decide +kernel
theorem dX4_measureTree_53 : decode cX4_measureTree 53 = .ok (.iload_n 2, 1) := by decide +kernel
theorem dX4_measureTree_54 : decode cX4_measureTree 54 = .ok (.aload_n 1, 1) := by decide +kernel
theorem dX4_measureTree_55 : decode cX4_measureTree 55 = .ok (.getfield 56, 3) := by decide +kernel
theorem dX4_measureTree_58 : decode cX4_measureTree 58 = .ok (.iload_n 2, 1) := by decide +kernel
theorem dX4_measureTree_59 : decode cX4_measureTree 59 = .ok (.iaload, 1) := by decide +kernel
theorem dX4_measureTree_60 : decode cX4_measureTree 60 = .ok (.iastore, 1) := by decide +kernel
theorem dX4_measureTree_61 : decode cX4_measureTree 61 = .ok (.aload_n 0, 1) := by decide +kernel
theorem dX4_measureTree_62 : decode cX4_measureTree 62 = .ok (.getfield 11, 3) := by decide +kernel
theorem dX4_measureTree_65 : decode cX4_measureTree 65 = .ok (.iconst 4, 1) := by decide +kernel
theorem dX4_measureTree_66 : decode cX4_measureTree 66 = .ok (.aaload, 1) := by decide +kernel
theorem dX4_measureTree_67 : decode cX4_measureTree 67 = .ok (.iload_n 2, 1) := by decide +kernel
theorem dX4_measureTree_68 : decode cX4_measureTree 68 = .ok (.aload_n 1, 1) := by decide +kernel
theorem dX4_measureTree_69 : decode cX4_measureTree 69 = .ok (.getfield 53, 3) := by decide +kernel
theorem dX4_measureTree_72 : decode cX4_measureTree 72 = .ok (.iload_n 2, 1) := by decide +kernel
theorem dX4_measureTree_73 : decode cX4_measureTree 73 = .ok (.iaload, 1) := by decide +kernel
theorem dX4_measureTree_74 : decode cX4_measureTree 74 = .ok (.iastore, 1) := by decide +kernel
theorem dX4_measureTree_75 : decode cX4_measureTree 75 = .ok (.aload_n 0, 1) := by decide +kernel
theorem dX4_measureTree_76 : decode cX4_measureTree 76 = .ok (.getfield 11, 3) := by decide +kernel
theorem dX4_measureTree_79 : decode cX4_measureTree 79 = .ok (.iconst 5, 1) := by decide +kernel
theorem dX4_measureTree_80 : decode cX4_measureTree 80 = .ok (.aaload, 1) := by decide +kernel
theorem dX4_measureTree_81 : decode cX4_measureTree 81 = .ok (.iload_n 2, 1) := by decide +kernel
theorem dX4_measureTree_82 : decode cX4_measureTree 82 = .ok (.aload_n 1, 1) := by decide +kernel
theorem dX4_measureTree_83 : decode cX4_measureTree 83 = .ok (.getfield 63, 3) := by decide +kernel
theorem dX4_measureTree_86 : decode cX4_measureTree 86 = .ok (.aload_n 0, 1) := by decide +kernel
theorem dX4_measureTree_87 : decode cX4_measureTree 87 = .ok (.getfield 20, 3) := by decide +kernel
theorem dX4_measureTree_90 : decode cX4_measureTree 90 = .ok (.iload_n 2, 1) := by decide +kernel
theorem dX4_measureTree_91 : decode cX4_measureTree 91 = .ok (.iaload, 1) := by decide +kernel
theorem dX4_measureTree_92 : decode cX4_measureTree 92 = .ok (.iaload, 1) := by decide +kernel
theorem dX4_measureTree_93 : decode cX4_measureTree 93 = .ok (.aload_n 1, 1) := by decide +kernel
theorem dX4_measureTree_94 : decode cX4_measureTree 94 = .ok (.getfield 63, 3) := by decide +kernel
theorem dX4_measureTree_97 : decode cX4_measureTree 97 = .ok (.iload_n 2, 1) := by decide +kernel
theorem dX4_measureTree_98 : decode cX4_measureTree 98 = .ok (.iaload, 1) := by decide +kernel
theorem dX4_measureTree_99 : decode cX4_measureTree 99 = .ok (.isub, 1) := by decide +kernel
theorem dX4_measureTree_100 : decode cX4_measureTree 100 = .ok (.iastore, 1) := by decide +kernel
theorem dX4_measureTree_101 : decode cX4_measureTree 101 = .ok (.aload_n 0, 1) := by decide +kernel
theorem dX4_measureTree_102 : decode cX4_measureTree 102 = .ok (.getfield 11, 3) := by decide +kernel
theorem dX4_measureTree_105 : decode cX4_measureTree 105 = .ok (.bipush 6, 2) := by decide +kernel
theorem dX4_measureTree_107 : decode cX4_measureTree 107 = .ok (.aaload, 1) := by decide +kernel
theorem dX4_measureTree_108 : decode cX4_measureTree 108 = .ok (.iload_n 2, 1) := by decide +kernel
theorem dX4_measureTree_109 : decode cX4_measureTree 109 = .ok (.aload_n 0, 1) := by decide +kernel
theorem dX4_measureTree_110 : decode cX4_measureTree 110 = .ok (.getfield 23, 3) := by decide +kernel
theorem dX4_measureTree_113 : decode cX4_measureTree 113 = .ok (.iload_n 2, 1) := by decide +kernel
theorem dX4_measureTree_114 : decode cX4_measureTree 114 = .ok (.iaload, 1) := by decide +kernel
theorem dX4_measureTree_115 : decode cX4_measureTree 115 = .ok (.aload_n 1, 1) := by decide +kernel
theorem dX4_measureTree_116 : decode cX4_measureTree 116 = .ok (.getfield 63, 3) := by decide +kernel
theorem dX4_measureTree_119 : decode cX4_measureTree 119 = .ok (.iload_n 2, 1) := by decide +kernel
theorem dX4_measureTree_120 : decode cX4_measureTree 120 = .ok (.iaload, 1) := by decide +kernel
theorem dX4_measureTree_121 : decode cX4_measureTree 121 = .ok (.iload_n 3, 1) := by decide +kernel
theorem dX4_measureTree_122 : decode cX4_measureTree 122 = .ok (.imul, 1) := by decide +kernel
theorem dX4_measureTree_123 : decode cX4_measureTree 123 = .ok (.isub, 1) := by decide +kernel
theorem dX4_measureTree_124 : decode cX4_measureTree 124 = .ok (.iastore, 1) := by decide +kernel
theorem dX4_measureTree_125 : decode cX4_measureTree 125 = .ok (.return_, 1) := by decide +kernel
theorem dX4_measureShape_0 : decode cX4_measureShape 0 = .ok (.aload_n 1, 1) := by decide +kernel
theorem dX4_measureShape_1 : decode cX4_measureShape 1 = .ok (.getfield 69, 3) := by decide +kernel
theorem dX4_measureShape_4 : decode cX4_measureShape 4 = .ok (.iload_n 2, 1) := by decide +kernel
theorem dX4_measureShape_5 : decode cX4_measureShape 5 = .ok (.laload, 1) := by decide +kernel
theorem dX4_measureShape_6 : decode cX4_measureShape 6 = .ok (.lstore_n 3, 1) := by decide +kernel
theorem dX4_measureShape_7 : decode cX4_measureShape 7 = .ok (.aload_n 0, 1) := by decide +kernel
theorem dX4_measureShape_8 : decode cX4_measureShape 8 = .ok (.getfield 11, 3) := by decide +kernel
theorem dX4_measureShape_11 : decode cX4_measureShape 11 = .ok (.bipush 7, 2) := by decide +kernel
theorem dX4_measureShape_13 : decode cX4_measureShape 13 = .ok (.aaload, 1) := by decide +kernel
theorem dX4_measureShape_14 : decode cX4_measureShape 14 = .ok (.iload_n 2, 1) := by decide +kernel
theorem dX4_measureShape_15 : decode cX4_measureShape 15 = .ok (.aload_n 1, 1) := by decide +kernel
theorem dX4_measureShape_16 : decode cX4_measureShape 16 = .ok (.getfield 79, 3) := by decide +kernel
theorem dX4_measureShape_19 : decode cX4_measureShape 19 = .ok (.lload_n 3, 1) := by decide +kernel
theorem dX4_measureShape_20 : decode cX4_measureShape 20 = .ok (.invokevirtual 83, 3) := by decide +kernel
theorem dX4_measureShape_23 : decode cX4_measureShape 23 = .ok (.iastore, 1) := by decide +kernel
theorem dX4_measureShape_24 : decode cX4_measureShape 24 = .ok (.aload_n 0, 1) := by decide +kernel
theorem dX4_measureShape_25 : decode cX4_measureShape 25 = .ok (.getfield 11, 3) := by decide +kernel
theorem dX4_measureShape_28 : decode cX4_measureShape 28 = .ok (.bipush 8, 2) := by decide +kernel
theorem dX4_measureShape_30 : decode cX4_measureShape 30 = .ok (.aaload, 1) := by decide +kernel
theorem dX4_measureShape_31 : decode cX4_measureShape 31 = .ok (.iload_n 2, 1) := by decide +kernel
theorem dX4_measureShape_32 : decode cX4_measureShape 32 = .ok (.aload_n 1, 1) := by decide +kernel
theorem dX4_measureShape_33 : decode cX4_measureShape 33 = .ok (.getfield 79, 3) := by decide +kernel
theorem dX4_measureShape_36 : decode cX4_measureShape 36 = .ok (.lload_n 3, 1) := by decide +kernel
theorem dX4_measureShape_37 : decode cX4_measureShape 37 = .ok (.invokevirtual 88, 3) := by decide +kernel
theorem dX4_measureShape_40 : decode cX4_measureShape 40 = .ok (.iastore, 1) := by decide +kernel
theorem dX4_measureShape_41 : decode cX4_measureShape 41 = .ok (.aload_n 0, 1) := by decide +kernel
theorem dX4_measureShape_42 : decode cX4_measureShape 42 = .ok (.getfield 11, 3) := by decide +kernel
theorem dX4_measureShape_45 : decode cX4_measureShape 45 = .ok (.bipush 9, 2) := by decide +kernel
theorem dX4_measureShape_47 : decode cX4_measureShape 47 = .ok (.aaload, 1) := by decide +kernel
theorem dX4_measureShape_48 : decode cX4_measureShape 48 = .ok (.iload_n 2, 1) := by decide +kernel
theorem dX4_measureShape_49 : decode cX4_measureShape 49 = .ok (.aload_n 1, 1) := by decide +kernel
theorem dX4_measureShape_50 : decode cX4_measureShape 50 = .ok (.getfield 79, 3) := by decide +kernel
theorem dX4_measureShape_53 : decode cX4_measureShape 53 = .ok (.lload_n 3, 1) := by decide +kernel
theorem dX4_measureShape_54 : decode cX4_measureShape 54 = .ok (.invokevirtual 91, 3) := by decide +kernel
theorem dX4_measureShape_57 : decode cX4_measureShape 57 = .ok (.iastore, 1) := by decide +kernel
theorem dX4_measureShape_58 : decode cX4_measureShape 58 = .ok (.aload_n 0, 1) := by decide +kernel
theorem dX4_measureShape_59 : decode cX4_measureShape 59 = .ok (.getfield 11, 3) := by decide +kernel
theorem dX4_measureShape_62 : decode cX4_measureShape 62 = .ok (.bipush 10, 2) := by decide +kernel
theorem dX4_measureShape_64 : decode cX4_measureShape 64 = .ok (.aaload, 1) := by decide +kernel
theorem dX4_measureShape_65 : decode cX4_measureShape 65 = .ok (.iload_n 2, 1) := by decide +kernel
theorem dX4_measureShape_66 : decode cX4_measureShape 66 = .ok (.aload_n 1, 1) := by decide +kernel
theorem dX4_measureShape_67 : decode cX4_measureShape 67 = .ok (.getfield 79, 3) := by decide +kernel
theorem dX4_measureShape_70 : decode cX4_measureShape 70 = .ok (.lload_n 3, 1) := by decide +kernel
theorem dX4_measureShape_71 : decode cX4_measureShape 71 = .ok (.aload_n 1, 1) := by decide +kernel
theorem dX4_measureShape_72 : decode cX4_measureShape 72 = .ok (.getfield 94, 3) := by decide +kernel
theorem dX4_measureShape_75 : decode cX4_measureShape 75 = .ok (.invokevirtual 98, 3) := by decide +kernel
theorem dX4_measureShape_78 : decode cX4_measureShape 78 = .ok (.iastore, 1) := by decide +kernel
theorem dX4_measureShape_79 : decode cX4_measureShape 79 = .ok (.return_, 1) := by decide +kernel
theorem dX4_prominenceIn_0 : decode cX4_prominenceIn 0 = .ok (.aload_n 1, 1) := by decide +kernel
theorem dX4_prominenceIn_1 : decode cX4_prominenceIn 1 = .ok (.getfield 56, 3) := by decide +kernel
theorem dX4_prominenceIn_4 : decode cX4_prominenceIn 4 = .ok (.iload_n 2, 1) := by decide +kernel
theorem dX4_prominenceIn_5 : decode cX4_prominenceIn 5 = .ok (.iaload, 1) := by decide +kernel
theorem dX4_prominenceIn_6 : decode cX4_prominenceIn 6 = .ok (.istore_n 3, 1) := by decide +kernel
theorem dX4_prominenceIn_7 : decode cX4_prominenceIn 7 = .ok (.iload_n 3, 1) := by decide +kernel
theorem dX4_prominenceIn_8 : decode cX4_prominenceIn 8 = .ok (.iconst (-1), 1) := by decide +kernel
theorem dX4_prominenceIn_9 : decode cX4_prominenceIn 9 = .ok (.if_icmp .ne 17, 3) := by decide +kernel
theorem dX4_prominenceIn_12 : decode cX4_prominenceIn 12 = .ok (.aload_n 1, 1) := by decide +kernel
theorem dX4_prominenceIn_13 : decode cX4_prominenceIn 13 = .ok (.getfield 63, 3) := by decide +kernel
theorem dX4_prominenceIn_16 : decode cX4_prominenceIn 16 = .ok (.aload_n 0, 1) := by decide +kernel
theorem dX4_prominenceIn_17 : decode cX4_prominenceIn 17 = .ok (.getfield 20, 3) := by decide +kernel
theorem dX4_prominenceIn_20 : decode cX4_prominenceIn 20 = .ok (.iload_n 2, 1) := by decide +kernel
theorem dX4_prominenceIn_21 : decode cX4_prominenceIn 21 = .ok (.iaload, 1) := by decide +kernel
theorem dX4_prominenceIn_22 : decode cX4_prominenceIn 22 = .ok (.iaload, 1) := by decide +kernel
theorem dX4_prominenceIn_23 : decode cX4_prominenceIn 23 = .ok (.iconst 1, 1) := by decide +kernel
theorem dX4_prominenceIn_24 : decode cX4_prominenceIn 24 = .ok (.iadd, 1) := by decide +kernel
theorem dX4_prominenceIn_25 : decode cX4_prominenceIn 25 = .ok (.ireturn, 1) := by decide +kernel
theorem dX4_prominenceIn_26 : decode cX4_prominenceIn 26 = .ok (.aload_n 0, 1) := by decide +kernel
theorem dX4_prominenceIn_27 : decode cX4_prominenceIn 27 = .ok (.getfield 20, 3) := by decide +kernel
theorem dX4_prominenceIn_30 : decode cX4_prominenceIn 30 = .ok (.iload_n 3, 1) := by decide +kernel
theorem dX4_prominenceIn_31 : decode cX4_prominenceIn 31 = .ok (.iaload, 1) := by decide +kernel
theorem dX4_prominenceIn_32 : decode cX4_prominenceIn 32 = .ok (.aload_n 0, 1) := by decide +kernel
theorem dX4_prominenceIn_33 : decode cX4_prominenceIn 33 = .ok (.getfield 20, 3) := by decide +kernel
theorem dX4_prominenceIn_36 : decode cX4_prominenceIn 36 = .ok (.iload_n 2, 1) := by decide +kernel
theorem dX4_prominenceIn_37 : decode cX4_prominenceIn 37 = .ok (.iaload, 1) := by decide +kernel
theorem dX4_prominenceIn_38 : decode cX4_prominenceIn 38 = .ok (.if_icmp .ne 13, 3) := by decide +kernel
theorem dX4_prominenceIn_41 : decode cX4_prominenceIn 41 = .ok (.aload_n 0, 1) := by decide +kernel
theorem dX4_prominenceIn_42 : decode cX4_prominenceIn 42 = .ok (.getfield 11, 3) := by decide +kernel
theorem dX4_prominenceIn_45 : decode cX4_prominenceIn 45 = .ok (.bipush 11, 2) := by decide +kernel
theorem dX4_prominenceIn_47 : decode cX4_prominenceIn 47 = .ok (.aaload, 1) := by decide +kernel
theorem dX4_prominenceIn_48 : decode cX4_prominenceIn 48 = .ok (.iload_n 3, 1) := by decide +kernel
theorem dX4_prominenceIn_49 : decode cX4_prominenceIn 49 = .ok (.iaload, 1) := by decide +kernel
theorem dX4_prominenceIn_50 : decode cX4_prominenceIn 50 = .ok (.ireturn, 1) := by decide +kernel
theorem dX4_prominenceIn_51 : decode cX4_prominenceIn 51 = .ok (.aload_n 1, 1) := by decide +kernel
theorem dX4_prominenceIn_52 : decode cX4_prominenceIn 52 = .ok (.getfield 63, 3) := by decide +kernel
theorem dX4_prominenceIn_55 : decode cX4_prominenceIn 55 = .ok (.aload_n 0, 1) := by decide +kernel
theorem dX4_prominenceIn_56 : decode cX4_prominenceIn 56 = .ok (.getfield 20, 3) := by decide +kernel
theorem dX4_prominenceIn_59 : decode cX4_prominenceIn 59 = .ok (.iload_n 2, 1) := by decide +kernel
theorem dX4_prominenceIn_60 : decode cX4_prominenceIn 60 = .ok (.iaload, 1) := by decide +kernel
theorem dX4_prominenceIn_61 : decode cX4_prominenceIn 61 = .ok (.iaload, 1) := by decide +kernel
theorem dX4_prominenceIn_62 : decode cX4_prominenceIn 62 = .ok (.aload_n 1, 1) := by decide +kernel
theorem dX4_prominenceIn_63 : decode cX4_prominenceIn 63 = .ok (.getfield 63, 3) := by decide +kernel
theorem dX4_prominenceIn_66 : decode cX4_prominenceIn 66 = .ok (.iload_n 3, 1) := by decide +kernel
theorem dX4_prominenceIn_67 : decode cX4_prominenceIn 67 = .ok (.iaload, 1) := by decide +kernel
theorem dX4_prominenceIn_68 : decode cX4_prominenceIn 68 = .ok (.isub, 1) := by decide +kernel
theorem dX4_prominenceIn_69 : decode cX4_prominenceIn 69 = .ok (.ireturn, 1) := by decide +kernel
theorem dX4_orderLeaves_0 : decode cX4_orderLeaves 0 = .ok (.aload_n 0, 1) := by decide +kernel
theorem dX4_orderLeaves_1 : decode cX4_orderLeaves 1 = .ok (.getfield 11, 3) := by decide +kernel
theorem dX4_orderLeaves_4 : decode cX4_orderLeaves 4 = .ok (.bipush 11, 2) := by decide +kernel
theorem dX4_orderLeaves_6 : decode cX4_orderLeaves 6 = .ok (.aaload, 1) := by decide +kernel
theorem dX4_orderLeaves_7 : decode cX4_orderLeaves 7 = .ok (.astore_n 2, 1) := by decide +kernel
theorem dX4_orderLeaves_8 : decode cX4_orderLeaves 8 = .ok (.iconst 0, 1) := by decide +kernel
theorem dX4_orderLeaves_9 : decode cX4_orderLeaves 9 = .ok (.istore_n 3, 1) := by decide +kernel
theorem dX4_orderLeaves_10 : decode cX4_orderLeaves 10 = .ok (.iconst 0, 1) := by decide +kernel
theorem dX4_orderLeaves_11 : decode cX4_orderLeaves 11 = .ok (.istore 4, 2) := by decide +kernel
theorem dX4_orderLeaves_13 : decode cX4_orderLeaves 13 = .ok (.iload 4, 2) := by decide +kernel
theorem dX4_orderLeaves_15 : decode cX4_orderLeaves 15 = .ok (.aload_n 1, 1) := by decide +kernel
theorem dX4_orderLeaves_16 : decode cX4_orderLeaves 16 = .ok (.getfield 33, 3) := by decide +kernel
theorem dX4_orderLeaves_19 : decode cX4_orderLeaves 19 = .ok (.if_icmp .ge 79, 3) := by decide +kernel
theorem dX4_orderLeaves_22 : decode cX4_orderLeaves 22 = .ok (.aload_n 1, 1) := by decide +kernel
theorem dX4_orderLeaves_23 : decode cX4_orderLeaves 23 = .ok (.getfield 53, 3) := by decide +kernel
theorem dX4_orderLeaves_26 : decode cX4_orderLeaves 26 = .ok (.iload 4, 2) := by decide +kernel
theorem dX4_orderLeaves_28 : decode cX4_orderLeaves 28 = .ok (.iaload, 1) := by decide +kernel
theorem dX4_orderLeaves_29 : decode cX4_orderLeaves 29 = .ok (.ifCond .ne 63, 3) := by decide +kernel
theorem dX4_orderLeaves_32 : decode cX4_orderLeaves 32 = .ok (.iload_n 3, 1) := by decide +kernel
theorem dX4_orderLeaves_33 : decode cX4_orderLeaves 33 = .ok (.istore 5, 2) := by decide +kernel
theorem dX4_orderLeaves_35 : decode cX4_orderLeaves 35 = .ok (.iload 5, 2) := by decide +kernel
theorem dX4_orderLeaves_37 : decode cX4_orderLeaves 37 = .ok (.ifCond .le 43, 3) := by decide +kernel
theorem dX4_orderLeaves_40 : decode cX4_orderLeaves 40 = .ok (.aload_n 2, 1) := by decide +kernel
theorem dX4_orderLeaves_41 : decode cX4_orderLeaves 41 = .ok (.aload_n 0, 1) := by decide +kernel
theorem dX4_orderLeaves_42 : decode cX4_orderLeaves 42 = .ok (.getfield 16, 3) := by decide +kernel
theorem dX4_orderLeaves_45 : decode cX4_orderLeaves 45 = .ok (.iload 5, 2) := by decide +kernel
theorem dX4_orderLeaves_47 : decode cX4_orderLeaves 47 = .ok (.iconst 1, 1) := by decide +kernel
theorem dX4_orderLeaves_48 : decode cX4_orderLeaves 48 = .ok (.isub, 1) := by decide +kernel
theorem dX4_orderLeaves_49 : decode cX4_orderLeaves 49 = .ok (.iaload, 1) := by decide +kernel
theorem dX4_orderLeaves_50 : decode cX4_orderLeaves 50 = .ok (.iaload, 1) := by decide +kernel
theorem dX4_orderLeaves_51 : decode cX4_orderLeaves 51 = .ok (.aload_n 2, 1) := by decide +kernel
theorem dX4_orderLeaves_52 : decode cX4_orderLeaves 52 = .ok (.iload 4, 2) := by decide +kernel
theorem dX4_orderLeaves_54 : decode cX4_orderLeaves 54 = .ok (.iaload, 1) := by decide +kernel
theorem dX4_orderLeaves_55 : decode cX4_orderLeaves 55 = .ok (.if_icmp .ge 25, 3) := by decide +kernel
theorem dX4_orderLeaves_58 : decode cX4_orderLeaves 58 = .ok (.aload_n 0, 1) := by decide +kernel
theorem dX4_orderLeaves_59 : decode cX4_orderLeaves 59 = .ok (.getfield 16, 3) := by decide +kernel
theorem dX4_orderLeaves_62 : decode cX4_orderLeaves 62 = .ok (.iload 5, 2) := by decide +kernel
theorem dX4_orderLeaves_64 : decode cX4_orderLeaves 64 = .ok (.aload_n 0, 1) := by decide +kernel
theorem dX4_orderLeaves_65 : decode cX4_orderLeaves 65 = .ok (.getfield 16, 3) := by decide +kernel
theorem dX4_orderLeaves_68 : decode cX4_orderLeaves 68 = .ok (.iload 5, 2) := by decide +kernel
theorem dX4_orderLeaves_70 : decode cX4_orderLeaves 70 = .ok (.iconst 1, 1) := by decide +kernel
theorem dX4_orderLeaves_71 : decode cX4_orderLeaves 71 = .ok (.isub, 1) := by decide +kernel
theorem dX4_orderLeaves_72 : decode cX4_orderLeaves 72 = .ok (.iaload, 1) := by decide +kernel
theorem dX4_orderLeaves_73 : decode cX4_orderLeaves 73 = .ok (.iastore, 1) := by decide +kernel
theorem dX4_orderLeaves_74 : decode cX4_orderLeaves 74 = .ok (.iinc 5 (-1), 3) := by decide +kernel
theorem dX4_orderLeaves_77 : decode cX4_orderLeaves 77 = .ok (.goto (-42), 3) := by decide +kernel
theorem dX4_orderLeaves_80 : decode cX4_orderLeaves 80 = .ok (.aload_n 0, 1) := by decide +kernel
theorem dX4_orderLeaves_81 : decode cX4_orderLeaves 81 = .ok (.getfield 16, 3) := by decide +kernel
theorem dX4_orderLeaves_84 : decode cX4_orderLeaves 84 = .ok (.iload 5, 2) := by decide +kernel
theorem dX4_orderLeaves_86 : decode cX4_orderLeaves 86 = .ok (.iload 4, 2) := by decide +kernel
theorem dX4_orderLeaves_88 : decode cX4_orderLeaves 88 = .ok (.iastore, 1) := by decide +kernel
theorem dX4_orderLeaves_89 : decode cX4_orderLeaves 89 = .ok (.iinc 3 1, 3) := by decide +kernel
theorem dX4_orderLeaves_92 : decode cX4_orderLeaves 92 = .ok (.iinc 4 1, 3) := by decide +kernel
theorem dX4_orderLeaves_95 : decode cX4_orderLeaves 95 = .ok (.goto (-82), 3) := by decide +kernel
theorem dX4_orderLeaves_98 : decode cX4_orderLeaves 98 = .ok (.return_, 1) := by decide +kernel
theorem dX5_init_0 : decode cX5_init 0 = .ok (.aload_n 0, 1) := by decide +kernel
theorem dX5_init_1 : decode cX5_init 1 = .ok (.invokespecial 3, 3) := by decide +kernel
theorem dX5_init_4 : decode cX5_init 4 = .ok (.aload_n 0, 1) := by decide +kernel
theorem dX5_init_5 : decode cX5_init 5 = .ok (.new 9, 3) := by decide +kernel
theorem dX5_init_8 : decode cX5_init 8 = .ok (.dup, 1) := by decide +kernel
theorem dX5_init_9 : decode cX5_init 9 = .ok (.invokespecial 11, 3) := by decide +kernel
theorem dX5_init_12 : decode cX5_init 12 = .ok (.putfield 12, 3) := by decide +kernel
theorem dX5_init_15 : decode cX5_init 15 = .ok (.aload_n 0, 1) := by decide +kernel
theorem dX5_init_16 : decode cX5_init 16 = .ok (.iconst 0, 1) := by decide +kernel
theorem dX5_init_17 : decode cX5_init 17 = .ok (.putfield 18, 3) := by decide +kernel
theorem dX5_init_20 : decode cX5_init 20 = .ok (.aload_n 0, 1) := by decide +kernel
theorem dX5_init_21 : decode cX5_init 21 = .ok (.iconst 0, 1) := by decide +kernel
theorem dX5_init_22 : decode cX5_init 22 = .ok (.putfield 22, 3) := by decide +kernel
theorem dX5_init_25 : decode cX5_init 25 = .ok (.aload_n 0, 1) := by decide +kernel
theorem dX5_init_26 : decode cX5_init 26 = .ok (.iconst 0, 1) := by decide +kernel
theorem dX5_init_27 : decode cX5_init 27 = .ok (.putfield 26, 3) := by decide +kernel
theorem dX5_init_30 : decode cX5_init 30 = .ok (.aload_n 0, 1) := by decide +kernel
theorem dX5_init_31 : decode cX5_init 31 = .ok (.iconst 0, 1) := by decide +kernel
theorem dX5_init_32 : decode cX5_init 32 = .ok (.putfield 29, 3) := by decide +kernel
theorem dX5_init_35 : decode cX5_init 35 = .ok (.aload_n 0, 1) := by decide +kernel
theorem dX5_init_36 : decode cX5_init 36 = .ok (.bipush 64, 2) := by decide +kernel
theorem dX5_init_38 : decode cX5_init 38 = .ok (.newarray .long, 2) := by decide +kernel
theorem dX5_init_40 : decode cX5_init 40 = .ok (.putfield 32, 3) := by decide +kernel
theorem dX5_init_43 : decode cX5_init 43 = .ok (.aload_n 0, 1) := by decide +kernel
theorem dX5_init_44 : decode cX5_init 44 = .ok (.bipush 64, 2) := by decide +kernel
theorem dX5_init_46 : decode cX5_init 46 = .ok (.newarray .int, 2) := by decide +kernel
theorem dX5_init_48 : decode cX5_init 48 = .ok (.putfield 36, 3) := by decide +kernel
theorem dX5_init_51 : decode cX5_init 51 = .ok (.aload_n 0, 1) := by decide +kernel
theorem dX5_init_52 : decode cX5_init 52 = .ok (.bipush 64, 2) := by decide +kernel
theorem dX5_init_54 : decode cX5_init 54 = .ok (.newarray .int, 2) := by decide +kernel
theorem dX5_init_56 : decode cX5_init 56 = .ok (.putfield 40, 3) := by decide +kernel
theorem dX5_init_59 : decode cX5_init 59 = .ok (.aload_n 0, 1) := by decide +kernel
theorem dX5_init_60 : decode cX5_init 60 = .ok (.bipush 64, 2) := by decide +kernel
theorem dX5_init_62 : decode cX5_init 62 = .ok (.newarray .int, 2) := by decide +kernel
theorem dX5_init_64 : decode cX5_init 64 = .ok (.putfield 43, 3) := by decide +kernel
theorem dX5_init_67 : decode cX5_init 67 = .ok (.aload_n 0, 1) := by decide +kernel
theorem dX5_init_68 : decode cX5_init 68 = .ok (.bipush 64, 2) := by decide +kernel
theorem dX5_init_70 : decode cX5_init 70 = .ok (.newarray .int, 2) := by decide +kernel
theorem dX5_init_72 : decode cX5_init 72 = .ok (.putfield 46, 3) := by decide +kernel
theorem dX5_init_75 : decode cX5_init 75 = .ok (.aload_n 0, 1) := by decide +kernel
theorem dX5_init_76 : decode cX5_init 76 = .ok (.bipush 64, 2) := by decide +kernel
theorem dX5_init_78 : decode cX5_init 78 = .ok (.newarray .int, 2) := by decide +kernel
theorem dX5_init_80 : decode cX5_init 80 = .ok (.putfield 49, 3) := by decide +kernel
theorem dX5_init_83 : decode cX5_init 83 = .ok (.aload_n 0, 1) := by decide +kernel
theorem dX5_init_84 : decode cX5_init 84 = .ok (.bipush 64, 2) := by decide +kernel
theorem dX5_init_86 : decode cX5_init 86 = .ok (.newarray .int, 2) := by decide +kernel
theorem dX5_init_88 : decode cX5_init 88 = .ok (.putfield 52, 3) := by decide +kernel
theorem dX5_init_91 : decode cX5_init 91 = .ok (.aload_n 0, 1) := by decide +kernel
theorem dX5_init_92 : decode cX5_init 92 = .ok (.bipush 16, 2) := by decide +kernel
theorem dX5_init_94 : decode cX5_init 94 = .ok (.newarray .long, 2) := by decide +kernel
theorem dX5_init_96 : decode cX5_init 96 = .ok (.putfield 55, 3) := by decide +kernel
theorem dX5_init_99 : decode cX5_init 99 = .ok (.return_, 1) := by decide +kernel
theorem dX5_build_0 : decode cX5_build 0 = .ok (.aload_n 0, 1) := by decide +kernel
theorem dX5_build_1 : decode cX5_build 1 = .ok (.getfield 12, 3) := by decide +kernel
theorem dX5_build_4 : decode cX5_build 4 = .ok (.aload_n 1, 1) := by decide +kernel
theorem dX5_build_5 : decode cX5_build 5 = .ok (.getfield 58, 3) := by decide +kernel
theorem dX5_build_8 : decode cX5_build 8 = .ok (.aload_n 1, 1) := by decide +kernel
theorem dX5_build_9 : decode cX5_build 9 = .ok (.getfield 63, 3) := by decide +kernel
theorem dX5_build_12 : decode cX5_build 12 = .ok (.invokevirtual 66, 3) := by decide +kernel
theorem dX5_build_15 : decode cX5_build 15 = .ok (.aload_n 0, 1) := by decide +kernel
theorem dX5_build_16 : decode cX5_build 16 = .ok (.iload_n 3, 1) := by decide +kernel
theorem dX5_build_17 : decode cX5_build 17 = .ok (.putfield 18, 3) := by decide +kernel
theorem dX5_build_20 : decode cX5_build 20 = .ok (.aload_n 0, 1) := by decide +kernel
theorem dX5_build_21 : decode cX5_build 21 = .ok (.iconst 0, 1) := by decide +kernel
theorem dX5_build_22 : decode cX5_build 22 = .ok (.putfield 22, 3) := by decide +kernel
theorem dX5_build_25 : decode cX5_build 25 = .ok (.aload_n 0, 1) := by decide +kernel
theorem dX5_build_26 : decode cX5_build 26 = .ok (.iconst 0, 1) := by decide +kernel
theorem dX5_build_27 : decode cX5_build 27 = .ok (.putfield 29, 3) := by decide +kernel
theorem dX5_build_30 : decode cX5_build 30 = .ok (.aload_n 0, 1) := by decide +kernel
theorem dX5_build_31 : decode cX5_build 31 = .ok (.getfield 49, 3) := by decide +kernel
theorem dX5_build_34 : decode cX5_build 34 = .ok (.iconst (-1), 1) := by decide +kernel
theorem dX5_build_35 : decode cX5_build 35 = .ok (.invokestatic 70, 3) := by decide +kernel
theorem dX5_build_38 : decode cX5_build 38 = .ok (.aload_n 0, 1) := by decide +kernel
theorem dX5_build_39 : decode cX5_build 39 = .ok (.aload_n 1, 1) := by decide +kernel
theorem dX5_build_40 : decode cX5_build 40 = .ok (.iload_n 2, 1) := by decide +kernel
theorem dX5_build_41 : decode cX5_build 41 = .ok (.invokevirtual 76, 3) := by decide +kernel
theorem dX5_build_44 : decode cX5_build 44 = .ok (.aload_n 0, 1) := by decide +kernel
theorem dX5_build_45 : decode cX5_build 45 = .ok (.getfield 12, 3) := by decide +kernel
theorem dX5_build_48 : decode cX5_build 48 = .ok (.getfield 80, 3) := by decide +kernel
theorem dX5_build_51 : decode cX5_build 51 = .ok (.lstore 4, 2) := by decide +kernel
theorem dX5_build_53 : decode cX5_build 53 = .ok (.iconst 0, 1) := by decide +kernel
theorem dX5_build_54 : decode cX5_build 54 = .ok (.istore 6, 2) := by decide +kernel
theorem dX5_build_56 : decode cX5_build 56 = .ok (.iload 6, 2) := by decide +kernel
theorem dX5_build_58 : decode cX5_build 58 = .ok (.bipush 16, 2) := by decide +kernel
theorem dX5_build_60 : decode cX5_build 60 = .ok (.if_icmp .ge 45, 3) := by decide +kernel
theorem dX5_build_63 : decode cX5_build 63 = .ok (.aload_n 0, 1) := by decide +kernel
theorem dX5_build_64 : decode cX5_build 64 = .ok (.getfield 55, 3) := by decide +kernel
theorem dX5_build_67 : decode cX5_build 67 = .ok (.iload 6, 2) := by decide +kernel
theorem dX5_build_69 : decode cX5_build 69 = .ok (.laload, 1) := by decide +kernel
theorem dX5_build_70 : decode cX5_build 70 = .ok (.lconst 0, 1) := by decide +kernel
theorem dX5_build_71 : decode cX5_build 71 = .ok (.lcmp, 1) := by decide +kernel
theorem dX5_build_72 : decode cX5_build 72 = .ok (.ifCond .eq 11, 3) := by decide +kernel
theorem dX5_build_75 : decode cX5_build 75 = .ok (.aload_n 0, 1) := by decide +kernel
theorem dX5_build_76 : decode cX5_build 76 = .ok (.iload 6, 2) := by decide +kernel
theorem dX5_build_78 : decode cX5_build 78 = .ok (.lload 4, 2) := by decide +kernel
theorem dX5_build_80 : decode cX5_build 80 = .ok (.invokevirtual 84, 3) := by decide +kernel
theorem dX5_build_83 : decode cX5_build 83 = .ok (.lload 4, 2) := by decide +kernel
theorem dX5_build_85 : decode cX5_build 85 = .ok (.aload_n 0, 1) := by decide +kernel
theorem dX5_build_86 : decode cX5_build 86 = .ok (.getfield 55, 3) := by decide +kernel
theorem dX5_build_89 : decode cX5_build 89 = .ok (.iload 6, 2) := by decide +kernel
theorem dX5_build_91 : decode cX5_build 91 = .ok (.laload, 1) := by decide +kernel
theorem dX5_build_92 : decode cX5_build 92 = .ok (.ldc2_w 88, 3) := by decide +kernel
theorem dX5_build_95 : decode cX5_build 95 = .ok (.lxor, 1) := by decide +kernel
theorem dX5_build_96 : decode cX5_build 96 = .ok (.land, 1) := by decide +kernel
theorem dX5_build_97 : decode cX5_build 97 = .ok (.lstore 4, 2) := by decide +kernel
theorem dX5_build_99 : decode cX5_build 99 = .ok (.iinc 6 1, 3) := by decide +kernel
theorem dX5_build_102 : decode cX5_build 102 = .ok (.goto (-46), 3) := by decide +kernel
theorem dX5_build_105 : decode cX5_build 105 = .ok (.aload_n 0, 1) := by decide +kernel
theorem dX5_build_106 : decode cX5_build 106 = .ok (.invokevirtual 90, 3) := by decide +kernel
theorem dX5_build_109 : decode cX5_build 109 = .ok (.return_, 1) := by decide +kernel
theorem dX5_sortPixels_0 : decode cX5_sortPixels 0 = .ok (.aload_n 0, 1) := by decide +kernel
theorem dX5_sortPixels_1 : decode cX5_sortPixels 1 = .ok (.getfield 55, 3) := by decide +kernel
theorem dX5_sortPixels_4 : decode cX5_sortPixels 4 = .ok (.lconst 0, 1) := by decide +kernel
theorem dX5_sortPixels_5 : decode cX5_sortPixels 5 = .ok (.invokestatic 93, 3) := by decide +kernel
theorem dX5_sortPixels_8 : decode cX5_sortPixels 8 = .ok (.iconst 0, 1) := by decide +kernel
theorem dX5_sortPixels_9 : decode cX5_sortPixels 9 = .ok (.istore_n 3, 1) := by decide +kernel
theorem dX5_sortPixels_10 : decode cX5_sortPixels 10 = .ok (.iload_n 3, 1) := by decide +kernel
theorem dX5_sortPixels_11 : decode cX5_sortPixels 11 = .ok (.aload_n 0, 1) := by decide +kernel
theorem dX5_sortPixels_12 : decode cX5_sortPixels 12 = .ok (.getfield 12, 3) := by decide +kernel
theorem dX5_sortPixels_15 : decode cX5_sortPixels 15 = .ok (.getfield 96, 3) := by decide +kernel
theorem dX5_sortPixels_18 : decode cX5_sortPixels 18 = .ok (.if_icmp .ge 30, 3) := by decide +kernel
theorem dX5_sortPixels_21 : decode cX5_sortPixels 21 = .ok (.aload_n 0, 1) := by decide +kernel
theorem dX5_sortPixels_22 : decode cX5_sortPixels 22 = .ok (.getfield 55, 3) := by decide +kernel
theorem dX5_sortPixels_25 : decode cX5_sortPixels 25 = .ok (.aload_n 1, 1) := by decide +kernel
theorem dX5_sortPixels_26 : decode cX5_sortPixels 26 = .ok (.getfield 99, 3) := by decide +kernel
theorem dX5_sortPixels_29 : decode cX5_sortPixels 29 = .ok (.iload_n 3, 1) := by decide +kernel
theorem dX5_sortPixels_30 : decode cX5_sortPixels 30 = .ok (.iaload, 1) := by decide +kernel
theorem dX5_sortPixels_31 : decode cX5_sortPixels 31 = .ok (.iload_n 2, 1) := by decide +kernel
theorem dX5_sortPixels_32 : decode cX5_sortPixels 32 = .ok (.invokestatic 102, 3) := by decide +kernel
theorem dX5_sortPixels_35 : decode cX5_sortPixels 35 = .ok (.dup2, 1) := by decide +kernel
theorem dX5_sortPixels_36 : decode cX5_sortPixels 36 = .ok (.laload, 1) := by decide +kernel
theorem dX5_sortPixels_37 : decode cX5_sortPixels 37 = .ok (.lconst 1, 1) := by decide +kernel
theorem dX5_sortPixels_38 : decode cX5_sortPixels 38 = .ok (.iload_n 3, 1) := by decide +kernel
theorem dX5_sortPixels_39 : decode cX5_sortPixels 39 = .ok (.lshl, 1) := by decide +kernel
theorem dX5_sortPixels_40 : decode cX5_sortPixels 40 = .ok (.lor, 1) := by decide +kernel
theorem dX5_sortPixels_41 : decode cX5_sortPixels 41 = .ok (.lastore, 1) := by decide +kernel
theorem dX5_sortPixels_42 : decode cX5_sortPixels 42 = .ok (.iinc 3 1, 3) := by decide +kernel
theorem dX5_sortPixels_45 : decode cX5_sortPixels 45 = .ok (.goto (-35), 3) := by decide +kernel
theorem dX5_sortPixels_48 : decode cX5_sortPixels 48 = .ok (.return_, 1) := by decide +kernel
theorem dX5_addNodes_0 : decode cX5_addNodes 0 = .ok (.lload_n 2, 1) := by decide +kernel
theorem dX5_addNodes_1 : decode cX5_addNodes 1 = .ok (.lstore 4, 2) := by decide +kernel
theorem dX5_addNodes_3 : decode cX5_addNodes 3 = .ok (.iconst 0, 1) := by decide +kernel
theorem dX5_addNodes_4 : decode cX5_addNodes 4 = .ok (.istore 6, 2) := by decide +kernel
theorem dX5_addNodes_6 : decode cX5_addNodes 6 = .ok (.iload 6, 2) := by decide +kernel
theorem dX5_addNodes_8 : decode cX5_addNodes 8 = .ok (.aload_n 0, 1) := by decide +kernel
theorem dX5_addNodes_9 : decode cX5_addNodes 9 = .ok (.getfield 12, 3) := by decide +kernel
theorem dX5_addNodes_12 : decode cX5_addNodes 12 = .ok (.getfield 96, 3) := by decide +kernel
theorem dX5_addNodes_15 : decode cX5_addNodes 15 = .ok (.if_icmp .ge 85, 3) := by decide +kernel
theorem dX5_addNodes_18 : decode cX5_addNodes 18 = .ok (.aload_n 0, 1) := by decide +kernel
theorem dX5_addNodes_19 : decode cX5_addNodes 19 = .ok (.getfield 22, 3) := by decide +kernel
theorem dX5_addNodes_22 : decode cX5_addNodes 22 = .ok (.bipush 64, 2) := by decide +kernel
theorem dX5_addNodes_24 : decode cX5_addNodes 24 = .ok (.if_icmp .ge 76, 3) := by decide +kernel
theorem dX5_addNodes_27 : decode cX5_addNodes 27 = .ok (.lconst 1, 1) := by decide +kernel
theorem dX5_addNodes_28 : decode cX5_addNodes 28 = .ok (.iload 6, 2) := by decide +kernel
theorem dX5_addNodes_30 : decode cX5_addNodes 30 = .ok (.lshl, 1) := by decide +kernel
theorem dX5_addNodes_31 : decode cX5_addNodes 31 = .ok (.lstore 7, 2) := by decide +kernel
theorem dX5_addNodes_33 : decode cX5_addNodes 33 = .ok (.lload 4, 2) := by decide +kernel
theorem dX5_addNodes_35 : decode cX5_addNodes 35 = .ok (.lload 7, 2) := by decide +kernel
theorem dX5_addNodes_37 : decode cX5_addNodes 37 = .ok (.land, 1) := by decide +kernel
theorem dX5_addNodes_38 : decode cX5_addNodes 38 = .ok (.lconst 0, 1) := by decide +kernel
theorem dX5_addNodes_39 : decode cX5_addNodes 39 = .ok (.lcmp, 1) := by decide +kernel
theorem dX5_addNodes_40 : decode cX5_addNodes 40 = .ok (.ifCond .eq 54, 3) := by decide +kernel
theorem dX5_addNodes_43 : decode cX5_addNodes 43 = .ok (.aload_n 0, 1) := by decide +kernel
theorem dX5_addNodes_44 : decode cX5_addNodes 44 = .ok (.getfield 12, 3) := by decide +kernel
theorem dX5_addNodes_47 : decode cX5_addNodes 47 = .ok (.lload 7, 2) := by decide +kernel
theorem dX5_addNodes_49 : decode cX5_addNodes 49 = .ok (.lload 4, 2) := by decide +kernel
theorem dX5_addNodes_51 : decode cX5_addNodes 51 = .ok (.aload_n 0, 1) := by decide +kernel
theorem dX5_addNodes_52 : decode cX5_addNodes 52 = .ok (.getfield 18, 3) := by decide +kernel
theorem dX5_addNodes_55 : decode cX5_addNodes 55 = .ok (.invokevirtual 106, 3) := by decide +kernel
theorem dX5_addNodes_58 : decode cX5_addNodes 58 = .ok (.lstore 9, 2) := by decide +kernel
theorem dX5_addNodes_60 : decode cX5_addNodes 60 = .ok (.lload 4, 2) := by decide +kernel
theorem dX5_addNodes_62 : decode cX5_addNodes 62 = .ok (.lload 9, 2) := by decide +kernel
theorem dX5_addNodes_64 : decode cX5_addNodes 64 = .ok (.ldc2_w 88, 3) := by decide +kernel
theorem dX5_addNodes_67 : decode cX5_addNodes 67 = .ok (.lxor, 1) := by decide +kernel
theorem dX5_addNodes_68 : decode cX5_addNodes 68 = .ok (.land, 1) := by decide +kernel
theorem dX5_addNodes_69 : decode cX5_addNodes 69 = .ok (.lstore 4, 2) := by decide +kernel
theorem dX5_addNodes_71 : decode cX5_addNodes 71 = .ok (.lload 9, 2) := by decide +kernel
theorem dX5_addNodes_73 : decode cX5_addNodes 73 = .ok (.aload_n 0, 1) := by decide +kernel
theorem dX5_addNodes_74 : decode cX5_addNodes 74 = .ok (.getfield 55, 3) := by decide +kernel
theorem dX5_addNodes_77 : decode cX5_addNodes 77 = .ok (.iload_n 1, 1) := by decide +kernel
theorem dX5_addNodes_78 : decode cX5_addNodes 78 = .ok (.laload, 1) := by decide +kernel
theorem dX5_addNodes_79 : decode cX5_addNodes 79 = .ok (.land, 1) := by decide +kernel
theorem dX5_addNodes_80 : decode cX5_addNodes 80 = .ok (.lconst 0, 1) := by decide +kernel
theorem dX5_addNodes_81 : decode cX5_addNodes 81 = .ok (.lcmp, 1) := by decide +kernel
theorem dX5_addNodes_82 : decode cX5_addNodes 82 = .ok (.ifCond .eq 12, 3) := by decide +kernel
theorem dX5_addNodes_85 : decode cX5_addNodes 85 = .ok (.aload_n 0, 1) := by decide +kernel
theorem dX5_addNodes_86 : decode cX5_addNodes 86 = .ok (.iload_n 1, 1) := by decide +kernel
theorem dX5_addNodes_87 : decode cX5_addNodes 87 = .ok (.lload 9, 2) := by decide +kernel
theorem dX5_addNodes_89 : decode cX5_addNodes 89 = .ok (.iload 6, 2) := by decide +kernel
theorem dX5_addNodes_91 : decode cX5_addNodes 91 = .ok (.invokevirtual 110, 3) := by decide +kernel
theorem dX5_addNodes_94 : decode cX5_addNodes 94 = .ok (.iinc 6 1, 3) := by decide +kernel
theorem dX5_addNodes_97 : decode cX5_addNodes 97 = .ok (.goto (-91), 3) := by decide +kernel
theorem dX5_addNodes_100 : decode cX5_addNodes 100 = .ok (.return_, 1) := by decide +kernel
theorem dX5_addNode_0 : decode cX5_addNode 0 = .ok (.aload_n 0, 1) := by decide +kernel
theorem dX5_addNode_1 : decode cX5_addNode 1 = .ok (.getfield 22, 3) := by decide +kernel
theorem dX5_addNode_4 : decode cX5_addNode 4 = .ok (.istore 5, 2) := by decide +kernel
theorem dX5_addNode_6 : decode cX5_addNode 6 = .ok (.aload_n 0, 1) := by decide +kernel
theorem dX5_addNode_7 : decode cX5_addNode 7 = .ok (.dup, 1) := by decide +kernel
theorem dX5_addNode_8 : decode cX5_addNode 8 = .ok (.getfield 22, 3) := by decide +kernel
theorem dX5_addNode_11 : decode cX5_addNode 11 = .ok (.iconst 1, 1) := by decide +kernel
theorem dX5_addNode_12 : decode cX5_addNode 12 = .ok (.iadd, 1) := by decide +kernel
theorem dX5_addNode_13 : decode cX5_addNode 13 = .ok (.putfield 22, 3) := by decide +kernel
theorem dX5_addNode_16 : decode cX5_addNode 16 = .ok (.aload_n 0, 1) := by decide +kernel
theorem dX5_addNode_17 : decode cX5_addNode 17 = .ok (.getfield 49, 3) := by decide +kernel
theorem dX5_addNode_20 : decode cX5_addNode 20 = .ok (.iload 4, 2) := by decide +kernel
theorem dX5_addNode_22 : decode cX5_addNode 22 = .ok (.iaload, 1) := by decide +kernel
theorem dX5_addNode_23 : decode cX5_addNode 23 = .ok (.istore 6, 2) := by decide +kernel
theorem dX5_addNode_25 : decode cX5_addNode 25 = .ok (.aload_n 0, 1) := by decide +kernel
theorem dX5_addNode_26 : decode cX5_addNode 26 = .ok (.getfield 32, 3) := by decide +kernel
theorem dX5_addNode_29 : decode cX5_addNode 29 = .ok (.iload 5, 2) := by decide +kernel
theorem dX5_addNode_31 : decode cX5_addNode 31 = .ok (.lload_n 2, 1) := by decide +kernel
theorem dX5_addNode_32 : decode cX5_addNode 32 = .ok (.lastore, 1) := by decide +kernel
theorem dX5_addNode_33 : decode cX5_addNode 33 = .ok (.aload_n 0, 1) := by decide +kernel
theorem dX5_addNode_34 : decode cX5_addNode 34 = .ok (.getfield 36, 3) := by decide +kernel
theorem dX5_addNode_37 : decode cX5_addNode 37 = .ok (.iload 5, 2) := by decide +kernel
theorem dX5_addNode_39 : decode cX5_addNode 39 = .ok (.iload_n 1, 1) := by decide +kernel
theorem dX5_addNode_40 : decode cX5_addNode 40 = .ok (.iastore, 1) := by decide +kernel
theorem dX5_addNode_41 : decode cX5_addNode 41 = .ok (.aload_n 0, 1) := by decide +kernel
theorem dX5_addNode_42 : decode cX5_addNode 42 = .ok (.getfield 40, 3) := by decide +kernel
theorem dX5_addNode_45 : decode cX5_addNode 45 = .ok (.iload 5, 2) := by decide +kernel
theorem dX5_addNode_47 : decode cX5_addNode 47 = .ok (.lload_n 2, 1) := by decide +kernel
theorem dX5_addNode_48 : decode cX5_addNode 48 = .ok (.aload_n 0, 1) := by decide +kernel
theorem dX5_addNode_49 : decode cX5_addNode 49 = .ok (.getfield 55, 3) := by decide +kernel
theorem dX5_addNode_52 : decode cX5_addNode 52 = .ok (.iload_n 1, 1) := by decide +kernel
theorem dX5_addNode_53 : decode cX5_addNode 53 = .ok (.laload, 1) := by decide +kernel
theorem dX5_addNode_54 : decode cX5_addNode 54 = .ok (.land, 1) := by decide +kernel
theorem dX5_addNode_55 : decode cX5_addNode 55 = .ok (.invokestatic 114, 3) := by decide +kernel
theorem dX5_addNode_58 : decode cX5_addNode 58 = .ok (.iastore, 1) := by decide +kernel
theorem dX5_addNode_59 : decode cX5_addNode 59 = .ok (.aload_n 0, 1) := by decide +kernel
theorem dX5_addNode_60 : decode cX5_addNode 60 = .ok (.getfield 43, 3) := by decide +kernel
theorem dX5_addNode_63 : decode cX5_addNode 63 = .ok (.iload 5, 2) := by decide +kernel
theorem dX5_addNode_65 : decode cX5_addNode 65 = .ok (.iload 6, 2) := by decide +kernel
theorem dX5_addNode_67 : decode cX5_addNode 67 = .ok (.iastore, 1) := by decide +kernel
theorem dX5_addNode_68 : decode cX5_addNode 68 = .ok (.aload_n 0, 1) := by decide +kernel
theorem dX5_addNode_69 : decode cX5_addNode 69 = .ok (.getfield 46, 3) := by decide +kernel
theorem dX5_addNode_72 : decode cX5_addNode 72 = .ok (.iload 5, 2) := by decide +kernel
theorem dX5_addNode_74 : decode cX5_addNode 74 = .ok (.iconst 0, 1) := by decide +kernel
theorem dX5_addNode_75 : decode cX5_addNode 75 = .ok (.iastore, 1) := by decide +kernel
theorem dX5_addNode_76 : decode cX5_addNode 76 = .ok (.aload_n 0, 1) := by decide +kernel
theorem dX5_addNode_77 : decode cX5_addNode 77 = .ok (.getfield 52, 3) := by decide +kernel
theorem dX5_addNode_80 : decode cX5_addNode 80 = .ok (.iload 5, 2) := by decide +kernel
theorem dX5_addNode_82 : decode cX5_addNode 82 = .ok (.iconst 1, 1) := by decide +kernel
theorem dX5_addNode_83 : decode cX5_addNode 83 = .ok (.iastore, 1) := by decide +kernel
theorem dX5_addNode_84 : decode cX5_addNode 84 = .ok (.iload 6, 2) := by decide +kernel
theorem dX5_addNode_86 : decode cX5_addNode 86 = .ok (.iconst (-1), 1) := by decide +kernel
theorem dX5_addNode_87 : decode cX5_addNode 87 = .ok (.if_icmp .eq 30, 3) := by decide +kernel
theorem dX5_addNode_90 : decode cX5_addNode 90 = .ok (.aload_n 0, 1) := by decide +kernel
theorem dX5_addNode_91 : decode cX5_addNode 91 = .ok (.getfield 46, 3) := by decide +kernel
theorem dX5_addNode_94 : decode cX5_addNode 94 = .ok (.iload 6, 2) := by decide +kernel
theorem dX5_addNode_96 : decode cX5_addNode 96 = .ok (.dup2, 1) := by decide +kernel
theorem dX5_addNode_97 : decode cX5_addNode 97 = .ok (.iaload, 1) := by decide +kernel
theorem dX5_addNode_98 : decode cX5_addNode 98 = .ok (.iconst 1, 1) := by decide +kernel
theorem dX5_addNode_99 : decode cX5_addNode 99 = .ok (.iadd, 1) := by decide +kernel
theorem dX5_addNode_100 : decode cX5_addNode 100 = .ok (.iastore, 1) := by decide +kernel
theorem dX5_addNode_101 : decode cX5_addNode 101 = .ok (.aload_n 0, 1) := by decide +kernel
theorem dX5_addNode_102 : decode cX5_addNode 102 = .ok (.getfield 52, 3) := by decide +kernel
theorem dX5_addNode_105 : decode cX5_addNode 105 = .ok (.iload 5, 2) := by decide +kernel
theorem dX5_addNode_107 : decode cX5_addNode 107 = .ok (.aload_n 0, 1) := by decide +kernel
theorem dX5_addNode_108 : decode cX5_addNode 108 = .ok (.getfield 52, 3) := by decide +kernel
theorem dX5_addNode_111 : decode cX5_addNode 111 = .ok (.iload 6, 2) := by decide +kernel
theorem dX5_addNode_113 : decode cX5_addNode 113 = .ok (.iaload, 1) := by decide +kernel
theorem dX5_addNode_114 : decode cX5_addNode 114 = .ok (.iconst 1, 1) := by decide +kernel
theorem dX5_addNode_115 : decode cX5_addNode 115 = .ok (.iadd, 1) := by decide +kernel
theorem dX5_addNode_116 : decode cX5_addNode 116 = .ok (.iastore, 1) := by decide +kernel
theorem dX5_addNode_117 : decode cX5_addNode 117 = .ok (.aload_n 0, 1) := by decide +kernel
theorem dX5_addNode_118 : decode cX5_addNode 118 = .ok (.aload_n 0, 1) := by decide +kernel
theorem dX5_addNode_119 : decode cX5_addNode 119 = .ok (.getfield 29, 3) := by decide +kernel
theorem dX5_addNode_122 : decode cX5_addNode 122 = .ok (.aload_n 0, 1) := by decide +kernel
theorem dX5_addNode_123 : decode cX5_addNode 123 = .ok (.getfield 52, 3) := by decide +kernel
theorem dX5_addNode_126 : decode cX5_addNode 126 = .ok (.iload 5, 2) := by decide +kernel
theorem dX5_addNode_128 : decode cX5_addNode 128 = .ok (.iaload, 1) := by decide +kernel
theorem dX5_addNode_129 : decode cX5_addNode 129 = .ok (.invokestatic 120, 3) := by decide +kernel
theorem dX5_addNode_132 : decode cX5_addNode 132 = .ok (.putfield 29, 3) := by decide +kernel
theorem dX5_addNode_135 : decode cX5_addNode 135 = .ok (.iload 4, 2) := by decide +kernel
theorem dX5_addNode_137 : decode cX5_addNode 137 = .ok (.istore 7, 2) := by decide +kernel
theorem dX5_addNode_139 : decode cX5_addNode 139 = .ok (.iload 7, 2) := by decide +kernel
theorem dX5_addNode_141 : decode cX5_addNode 141 = .ok (.aload_n 0, 1) := by decide +kernel
theorem dX5_addNode_142 : decode cX5_addNode 142 = .ok (.getfield 12, 3) := by decide +kernel
theorem dX5_addNode_145 : decode cX5_addNode 145 = .ok (.getfield 96, 3) := by decide +kernel
theorem dX5_addNode_148 : decode cX5_addNode 148 = .ok (.if_icmp .ge 29, 3) := by decide +kernel
theorem dX5_addNode_151 : decode cX5_addNode 151 = .ok (.aload_n 0, 1) := by decide +kernel
theorem dX5_addNode_152 : decode cX5_addNode 152 = .ok (.iload 5, 2) := by decide +kernel
theorem dX5_addNode_154 : decode cX5_addNode 154 = .ok (.iload 7, 2) := by decide +kernel
theorem dX5_addNode_156 : decode cX5_addNode 156 = .ok (.invokevirtual 126, 3) := by decide +kernel
theorem dX5_addNode_159 : decode cX5_addNode 159 = .ok (.ifCond .eq 12, 3) := by decide +kernel
theorem dX5_addNode_162 : decode cX5_addNode 162 = .ok (.aload_n 0, 1) := by decide +kernel
theorem dX5_addNode_163 : decode cX5_addNode 163 = .ok (.getfield 49, 3) := by decide +kernel
theorem dX5_addNode_166 : decode cX5_addNode 166 = .ok (.iload 7, 2) := by decide +kernel
theorem dX5_addNode_168 : decode cX5_addNode 168 = .ok (.iload 5, 2) := by decide +kernel
theorem dX5_addNode_170 : decode cX5_addNode 170 = .ok (.iastore, 1) := by decide +kernel
theorem dX5_addNode_171 : decode cX5_addNode 171 = .ok (.iinc 7 1, 3) := by decide +kernel
theorem dX5_addNode_174 : decode cX5_addNode 174 = .ok (.goto (-35), 3) := by decide +kernel
theorem dX5_addNode_177 : decode cX5_addNode 177 = .ok (.return_, 1) := by decide +kernel
theorem dX5_countLeaves_0 : decode cX5_countLeaves 0 = .ok (.aload_n 0, 1) := by decide +kernel
theorem dX5_countLeaves_1 : decode cX5_countLeaves 1 = .ok (.iconst 0, 1) := by decide +kernel
theorem dX5_countLeaves_2 : decode cX5_countLeaves 2 = .ok (.putfield 26, 3) := by decide +kernel
theorem dX5_countLeaves_5 : decode cX5_countLeaves 5 = .ok (.iconst 0, 1) := by decide +kernel
theorem dX5_countLeaves_6 : decode cX5_countLeaves 6 = .ok (.istore_n 1, 1) := by decide +kernel
theorem dX5_countLeaves_7 : decode cX5_countLeaves 7 = .ok (.iload_n 1, 1) := by decide +kernel
theorem dX5_countLeaves_8 : decode cX5_countLeaves 8 = .ok (.aload_n 0, 1) := by decide +kernel
theorem dX5_countLeaves_9 : decode cX5_countLeaves 9 = .ok (.getfield 22, 3) := by decide +kernel
theorem dX5_countLeaves_12 : decode cX5_countLeaves 12 = .ok (.if_icmp .ge 32, 3) := by decide +kernel
theorem dX5_countLeaves_15 : decode cX5_countLeaves 15 = .ok (.aload_n 0, 1) := by decide +kernel
theorem dX5_countLeaves_16 : decode cX5_countLeaves 16 = .ok (.dup, 1) := by decide +kernel
theorem dX5_countLeaves_17 : decode cX5_countLeaves 17 = .ok (.getfield 26, 3) := by decide +kernel
theorem dX5_countLeaves_20 : decode cX5_countLeaves 20 = .ok (.aload_n 0, 1) := by decide +kernel
theorem dX5_countLeaves_21 : decode cX5_countLeaves 21 = .ok (.getfield 46, 3) := by decide +kernel
theorem dX5_countLeaves_24 : decode cX5_countLeaves 24 = .ok (.iload_n 1, 1) := by decide +kernel
theorem dX5_countLeaves_25 : decode cX5_countLeaves 25 = .ok (.iaload, 1) := by decide +kernel
theorem dX5_countLeaves_26 : decode cX5_countLeaves 26 = .ok (.ifCond .ne 7, 3) := by decide +kernel
theorem dX5_countLeaves_29 : decode cX5_countLeaves 29 = .ok (.iconst 1, 1) := by decide +kernel
theorem dX5_countLeaves_30 : decode cX5_countLeaves 30 = .ok (.goto 4, 3) := by decide +kernel
theorem dX5_countLeaves_33 : decode cX5_countLeaves 33 = .ok (.iconst 0, 1) := by decide +kernel
theorem dX5_countLeaves_34 : decode cX5_countLeaves 34 = .ok (.iadd, 1) := by decide +kernel
theorem dX5_countLeaves_35 : decode cX5_countLeaves 35 = .ok (.putfield 26, 3) := by decide +kernel
theorem dX5_countLeaves_38 : decode cX5_countLeaves 38 = .ok (.iinc 1 1, 3) := by decide +kernel
theorem dX5_countLeaves_41 : decode cX5_countLeaves 41 = .ok (.goto (-34), 3) := by decide +kernel
theorem dX5_countLeaves_44 : decode cX5_countLeaves 44 = .ok (.return_, 1) := by decide +kernel
theorem dX5_numberOf_0 : decode cX5_numberOf 0 = .ok (.iload_n 1, 1) := by decide +kernel
theorem dX5_numberOf_1 : decode cX5_numberOf 1 = .ok (.iconst 2, 1) := by decide +kernel
theorem dX5_numberOf_2 : decode cX5_numberOf 2 = .ok (.if_icmp .ne 8, 3) := by decide +kernel
theorem dX5_numberOf_5 : decode cX5_numberOf 5 = .ok (.aload_n 0, 1) := by decide +kernel
theorem dX5_numberOf_6 : decode cX5_numberOf 6 = .ok (.getfield 22, 3) := by decide +kernel
theorem dX5_numberOf_9 : decode cX5_numberOf 9 = .ok (.ireturn, 1) := by decide +kernel
theorem dX5_numberOf_10 : decode cX5_numberOf 10 = .ok (.iload_n 1, 1) := by decide +kernel
theorem dX5_numberOf_11 : decode cX5_numberOf 11 = .ok (.iconst 4, 1) := by decide +kernel
theorem dX5_numberOf_12 : decode cX5_numberOf 12 = .ok (.if_icmp .ne 10, 3) := by decide +kernel
theorem dX5_numberOf_15 : decode cX5_numberOf 15 = .ok (.aload_n 0, 1) := by decide +kernel
theorem dX5_numberOf_16 : decode cX5_numberOf 16 = .ok (.getfield 29, 3) := by decide +kernel
theorem dX5_numberOf_19 : decode cX5_numberOf 19 = .ok (.goto 7, 3) := by decide +kernel
theorem dX5_numberOf_22 : decode cX5_numberOf 22 = .ok (.aload_n 0, 1) := by decide +kernel
theorem dX5_numberOf_23 : decode cX5_numberOf 23 = .ok (.getfield 26, 3) := by decide +kernel
theorem dX5_numberOf_26 : decode cX5_numberOf 26 = .ok (.ireturn, 1) := by decide +kernel
theorem dX5_holds_0 : decode cX5_holds 0 = .ok (.aload_n 0, 1) := by decide +kernel
theorem dX5_holds_1 : decode cX5_holds 1 = .ok (.getfield 32, 3) := by decide +kernel
theorem dX5_holds_4 : decode cX5_holds 4 = .ok (.iload_n 1, 1) := by decide +kernel
theorem dX5_holds_5 : decode cX5_holds 5 = .ok (.laload, 1) := by decide +kernel
theorem dX5_holds_6 : decode cX5_holds 6 = .ok (.iload_n 2, 1) := by decide +kernel
theorem dX5_holds_7 : decode cX5_holds 7 = .ok (.lushr, 1) := by decide +kernel
theorem dX5_holds_8 : decode cX5_holds 8 = .ok (.lconst 1, 1) := by decide +kernel
theorem dX5_holds_9 : decode cX5_holds 9 = .ok (.land, 1) := by decide +kernel
theorem dX5_holds_10 : decode cX5_holds 10 = .ok (.lconst 0, 1) := by decide +kernel
theorem dX5_holds_11 : decode cX5_holds 11 = .ok (.lcmp, 1) := by decide +kernel
theorem dX5_holds_12 : decode cX5_holds 12 = .ok (.ifCond .eq 7, 3) := by decide +kernel
theorem dX5_holds_15 : decode cX5_holds 15 = .ok (.iconst 1, 1) := by decide +kernel
theorem dX5_holds_16 : decode cX5_holds 16 = .ok (.goto 4, 3) := by decide +kernel
theorem dX5_holds_19 : decode cX5_holds 19 = .ok (.iconst 0, 1) := by decide +kernel
theorem dX5_holds_20 : decode cX5_holds 20 = .ok (.ireturn, 1) := by decide +kernel
theorem dX5_holdsNode_0 : decode cX5_holdsNode 0 = .ok (.aload_n 0, 1) := by decide +kernel
theorem dX5_holdsNode_1 : decode cX5_holdsNode 1 = .ok (.getfield 32, 3) := by decide +kernel
theorem dX5_holdsNode_4 : decode cX5_holdsNode 4 = .ok (.iload_n 2, 1) := by decide +kernel
theorem dX5_holdsNode_5 : decode cX5_holdsNode 5 = .ok (.laload, 1) := by decide +kernel
theorem dX5_holdsNode_6 : decode cX5_holdsNode 6 = .ok (.aload_n 0, 1) := by decide +kernel
theorem dX5_holdsNode_7 : decode cX5_holdsNode 7 = .ok (.getfield 32, 3) := by decide +kernel
theorem dX5_holdsNode_10 : decode cX5_holdsNode 10 = .ok (.iload_n 1, 1) := by decide +kernel
theorem dX5_holdsNode_11 : decode cX5_holdsNode 11 = .ok (.laload, 1) := by decide +kernel
theorem dX5_holdsNode_12 : decode cX5_holdsNode 12 = .ok (.ldc2_w 88, 3) := by decide +kernel
theorem dX5_holdsNode_15 : decode cX5_holdsNode 15 = .ok (.lxor, 1) := by decide +kernel
theorem dX5_holdsNode_16 : decode cX5_holdsNode 16 = .ok (.land, 1) := by decide +kernel
theorem dX5_holdsNode_17 : decode cX5_holdsNode 17 = .ok (.lconst 0, 1) := by decide +kernel
theorem dX5_holdsNode_18 : decode cX5_holdsNode 18 = .ok (.lcmp, 1) := by decide +kernel
theorem dX5_holdsNode_19 : decode cX5_holdsNode 19 = .ok (.ifCond .ne 7, 3) := by decide +kernel
theorem dX5_holdsNode_22 : decode cX5_holdsNode 22 = .ok (.iconst 1, 1) := by decide +kernel
theorem dX5_holdsNode_23 : decode cX5_holdsNode 23 = .ok (.goto 4, 3) := by decide +kernel
theorem dX5_holdsNode_26 : decode cX5_holdsNode 26 = .ok (.iconst 0, 1) := by decide +kernel
theorem dX5_holdsNode_27 : decode cX5_holdsNode 27 = .ok (.ireturn, 1) := by decide +kernel
theorem dX5_childAt_0 : decode cX5_childAt 0 = .ok (.iconst 0, 1) := by decide +kernel
theorem dX5_childAt_1 : decode cX5_childAt 1 = .ok (.istore_n 3, 1) := by decide +kernel
theorem dX5_childAt_2 : decode cX5_childAt 2 = .ok (.iload_n 1, 1) := by decide +kernel
theorem dX5_childAt_3 : decode cX5_childAt 3 = .ok (.iconst 1, 1) := by decide +kernel
theorem dX5_childAt_4 : decode cX5_childAt 4 = .ok (.iadd, 1) := by decide +kernel
theorem dX5_childAt_5 : decode cX5_childAt 5 = .ok (.istore 4, 2) := by decide +kernel
theorem dX5_childAt_7 : decode cX5_childAt 7 = .ok (.iload 4, 2) := by decide +kernel
theorem dX5_childAt_9 : decode cX5_childAt 9 = .ok (.aload_n 0, 1) := by decide +kernel
theorem dX5_childAt_10 : decode cX5_childAt 10 = .ok (.getfield 22, 3) := by decide +kernel
theorem dX5_childAt_13 : decode cX5_childAt 13 = .ok (.if_icmp .ge 31, 3) := by decide +kernel
theorem dX5_childAt_16 : decode cX5_childAt 16 = .ok (.aload_n 0, 1) := by decide +kernel
theorem dX5_childAt_17 : decode cX5_childAt 17 = .ok (.getfield 43, 3) := by decide +kernel
theorem dX5_childAt_20 : decode cX5_childAt 20 = .ok (.iload 4, 2) := by decide +kernel
theorem dX5_childAt_22 : decode cX5_childAt 22 = .ok (.iaload, 1) := by decide +kernel
theorem dX5_childAt_23 : decode cX5_childAt 23 = .ok (.iload_n 1, 1) := by decide +kernel
theorem dX5_childAt_24 : decode cX5_childAt 24 = .ok (.if_icmp .ne 14, 3) := by decide +kernel
theorem dX5_childAt_27 : decode cX5_childAt 27 = .ok (.iload_n 3, 1) := by decide +kernel
theorem dX5_childAt_28 : decode cX5_childAt 28 = .ok (.iload_n 2, 1) := by decide +kernel
theorem dX5_childAt_29 : decode cX5_childAt 29 = .ok (.if_icmp .ne 6, 3) := by decide +kernel
theorem dX5_childAt_32 : decode cX5_childAt 32 = .ok (.iload 4, 2) := by decide +kernel
theorem dX5_childAt_34 : decode cX5_childAt 34 = .ok (.ireturn, 1) := by decide +kernel
theorem dX5_childAt_35 : decode cX5_childAt 35 = .ok (.iinc 3 1, 3) := by decide +kernel
theorem dX5_childAt_38 : decode cX5_childAt 38 = .ok (.iinc 4 1, 3) := by decide +kernel
theorem dX5_childAt_41 : decode cX5_childAt 41 = .ok (.goto (-34), 3) := by decide +kernel
theorem dX5_childAt_44 : decode cX5_childAt 44 = .ok (.iconst (-1), 1) := by decide +kernel
theorem dX5_childAt_45 : decode cX5_childAt 45 = .ok (.ireturn, 1) := by decide +kernel
theorem dX5_lowestWith_0 : decode cX5_lowestWith 0 = .ok (.iconst 0, 1) := by decide +kernel
theorem dX5_lowestWith_1 : decode cX5_lowestWith 1 = .ok (.istore_n 3, 1) := by decide +kernel
theorem dX5_lowestWith_2 : decode cX5_lowestWith 2 = .ok (.iload_n 3, 1) := by decide +kernel
theorem dX5_lowestWith_3 : decode cX5_lowestWith 3 = .ok (.aload_n 0, 1) := by decide +kernel
theorem dX5_lowestWith_4 : decode cX5_lowestWith 4 = .ok (.getfield 22, 3) := by decide +kernel
theorem dX5_lowestWith_7 : decode cX5_lowestWith 7 = .ok (.if_icmp .ge 30, 3) := by decide +kernel
theorem dX5_lowestWith_10 : decode cX5_lowestWith 10 = .ok (.aload_n 0, 1) := by decide +kernel
theorem dX5_lowestWith_11 : decode cX5_lowestWith 11 = .ok (.getfield 36, 3) := by decide +kernel
theorem dX5_lowestWith_14 : decode cX5_lowestWith 14 = .ok (.iload_n 3, 1) := by decide +kernel
theorem dX5_lowestWith_15 : decode cX5_lowestWith 15 = .ok (.iaload, 1) := by decide +kernel
theorem dX5_lowestWith_16 : decode cX5_lowestWith 16 = .ok (.iload_n 2, 1) := by decide +kernel
theorem dX5_lowestWith_17 : decode cX5_lowestWith 17 = .ok (.if_icmp .lt 14, 3) := by decide +kernel
theorem dX5_lowestWith_20 : decode cX5_lowestWith 20 = .ok (.aload_n 0, 1) := by decide +kernel
theorem dX5_lowestWith_21 : decode cX5_lowestWith 21 = .ok (.iload_n 3, 1) := by decide +kernel
theorem dX5_lowestWith_22 : decode cX5_lowestWith 22 = .ok (.iload_n 1, 1) := by decide +kernel
theorem dX5_lowestWith_23 : decode cX5_lowestWith 23 = .ok (.invokevirtual 126, 3) := by decide +kernel
theorem dX5_lowestWith_26 : decode cX5_lowestWith 26 = .ok (.ifCond .eq 5, 3) := by decide +kernel
theorem dX5_lowestWith_29 : decode cX5_lowestWith 29 = .ok (.iload_n 3, 1) := by decide +kernel
theorem dX5_lowestWith_30 : decode cX5_lowestWith 30 = .ok (.ireturn, 1) := by decide +kernel
theorem dX5_lowestWith_31 : decode cX5_lowestWith 31 = .ok (.iinc 3 1, 3) := by decide +kernel
theorem dX5_lowestWith_34 : decode cX5_lowestWith 34 = .ok (.goto (-32), 3) := by decide +kernel
theorem dX5_lowestWith_37 : decode cX5_lowestWith 37 = .ok (.iconst (-1), 1) := by decide +kernel
theorem dX5_lowestWith_38 : decode cX5_lowestWith 38 = .ok (.ireturn, 1) := by decide +kernel
theorem dX5_smallestWith_0 : decode cX5_smallestWith 0 = .ok (.aload_n 0, 1) := by decide +kernel
theorem dX5_smallestWith_1 : decode cX5_smallestWith 1 = .ok (.getfield 22, 3) := by decide +kernel
theorem dX5_smallestWith_4 : decode cX5_smallestWith 4 = .ok (.iconst 1, 1) := by decide +kernel
theorem dX5_smallestWith_5 : decode cX5_smallestWith 5 = .ok (.isub, 1) := by decide +kernel
theorem dX5_smallestWith_6 : decode cX5_smallestWith 6 = .ok (.istore_n 3, 1) := by decide +kernel
theorem dX5_smallestWith_7 : decode cX5_smallestWith 7 = .ok (.iload_n 3, 1) := by decide +kernel
theorem dX5_smallestWith_8 : decode cX5_smallestWith 8 = .ok (.ifCond .le 29, 3) := by decide +kernel
theorem dX5_smallestWith_11 : decode cX5_smallestWith 11 = .ok (.aload_n 0, 1) := by decide +kernel
theorem dX5_smallestWith_12 : decode cX5_smallestWith 12 = .ok (.iload_n 3, 1) := by decide +kernel
theorem dX5_smallestWith_13 : decode cX5_smallestWith 13 = .ok (.iload_n 1, 1) := by decide +kernel
theorem dX5_smallestWith_14 : decode cX5_smallestWith 14 = .ok (.invokevirtual 126, 3) := by decide +kernel
theorem dX5_smallestWith_17 : decode cX5_smallestWith 17 = .ok (.ifCond .eq 14, 3) := by decide +kernel
theorem dX5_smallestWith_20 : decode cX5_smallestWith 20 = .ok (.aload_n 0, 1) := by decide +kernel
theorem dX5_smallestWith_21 : decode cX5_smallestWith 21 = .ok (.iload_n 3, 1) := by decide +kernel
theorem dX5_smallestWith_22 : decode cX5_smallestWith 22 = .ok (.iload_n 2, 1) := by decide +kernel
theorem dX5_smallestWith_23 : decode cX5_smallestWith 23 = .ok (.invokevirtual 126, 3) := by decide +kernel
theorem dX5_smallestWith_26 : decode cX5_smallestWith 26 = .ok (.ifCond .eq 5, 3) := by decide +kernel
theorem dX5_smallestWith_29 : decode cX5_smallestWith 29 = .ok (.iload_n 3, 1) := by decide +kernel
theorem dX5_smallestWith_30 : decode cX5_smallestWith 30 = .ok (.ireturn, 1) := by decide +kernel
theorem dX5_smallestWith_31 : decode cX5_smallestWith 31 = .ok (.iinc 3 (-1), 3) := by decide +kernel
theorem dX5_smallestWith_34 : decode cX5_smallestWith 34 = .ok (.goto (-27), 3) := by decide +kernel
theorem dX5_smallestWith_37 : decode cX5_smallestWith 37 = .ok (.iconst 0, 1) := by decide +kernel
theorem dX5_smallestWith_38 : decode cX5_smallestWith 38 = .ok (.ireturn, 1) := by decide +kernel
theorem dX5_stepsBetween_0 : decode cX5_stepsBetween 0 = .ok (.iconst 0, 1) := by decide +kernel
theorem dX5_stepsBetween_1 : decode cX5_stepsBetween 1 = .ok (.istore_n 3, 1) := by decide +kernel
theorem dX5_stepsBetween_2 : decode cX5_stepsBetween 2 = .ok (.iconst 0, 1) := by decide +kernel
theorem dX5_stepsBetween_3 : decode cX5_stepsBetween 3 = .ok (.istore 4, 2) := by decide +kernel
theorem dX5_stepsBetween_5 : decode cX5_stepsBetween 5 = .ok (.iload 4, 2) := by decide +kernel
theorem dX5_stepsBetween_7 : decode cX5_stepsBetween 7 = .ok (.aload_n 0, 1) := by decide +kernel
theorem dX5_stepsBetween_8 : decode cX5_stepsBetween 8 = .ok (.getfield 22, 3) := by decide +kernel
theorem dX5_stepsBetween_11 : decode cX5_stepsBetween 11 = .ok (.if_icmp .ge 34, 3) := by decide +kernel
theorem dX5_stepsBetween_14 : decode cX5_stepsBetween 14 = .ok (.iload_n 3, 1) := by decide +kernel
theorem dX5_stepsBetween_15 : decode cX5_stepsBetween 15 = .ok (.aload_n 0, 1) := by decide +kernel
theorem dX5_stepsBetween_16 : decode cX5_stepsBetween 16 = .ok (.iload 4, 2) := by decide +kernel
theorem dX5_stepsBetween_18 : decode cX5_stepsBetween 18 = .ok (.iload_n 1, 1) := by decide +kernel
theorem dX5_stepsBetween_19 : decode cX5_stepsBetween 19 = .ok (.invokevirtual 130, 3) := by decide +kernel
theorem dX5_stepsBetween_22 : decode cX5_stepsBetween 22 = .ok (.aload_n 0, 1) := by decide +kernel
theorem dX5_stepsBetween_23 : decode cX5_stepsBetween 23 = .ok (.iload 4, 2) := by decide +kernel
theorem dX5_stepsBetween_25 : decode cX5_stepsBetween 25 = .ok (.iload_n 2, 1) := by decide +kernel
theorem dX5_stepsBetween_26 : decode cX5_stepsBetween 26 = .ok (.invokevirtual 130, 3) := by decide +kernel
theorem dX5_stepsBetween_29 : decode cX5_stepsBetween 29 = .ok (.if_icmp .eq 7, 3) := by decide +kernel
theorem dX5_stepsBetween_32 : decode cX5_stepsBetween 32 = .ok (.iconst 1, 1) := by decide +kernel
theorem dX5_stepsBetween_33 : decode cX5_stepsBetween 33 = .ok (.goto 4, 3) := by decide +kernel
theorem dX5_stepsBetween_36 : decode cX5_stepsBetween 36 = .ok (.iconst 0, 1) := by decide +kernel
theorem dX5_stepsBetween_37 : decode cX5_stepsBetween 37 = .ok (.iadd, 1) := by decide +kernel
theorem dX5_stepsBetween_38 : decode cX5_stepsBetween 38 = .ok (.istore_n 3, 1) := by decide +kernel
theorem dX5_stepsBetween_39 : decode cX5_stepsBetween 39 = .ok (.iinc 4 1, 3) := by decide +kernel
theorem dX5_stepsBetween_42 : decode cX5_stepsBetween 42 = .ok (.goto (-37), 3) := by decide +kernel
theorem dX5_stepsBetween_45 : decode cX5_stepsBetween 45 = .ok (.iload_n 3, 1) := by decide +kernel
theorem dX5_stepsBetween_46 : decode cX5_stepsBetween 46 = .ok (.ireturn, 1) := by decide +kernel
theorem dX6_init_0 : decode cX6_init 0 = .ok (.aload_n 0, 1) := by decide +kernel
theorem dX6_init_1 : decode cX6_init 1 = .ok (.invokespecial 3, 3) := by decide +kernel
theorem dX6_init_4 : decode cX6_init 4 = .ok (.aload_n 0, 1) := by decide +kernel
theorem dX6_init_5 : decode cX6_init 5 = .ok (.iconst 1, 1) := by decide +kernel
theorem dX6_init_6 : decode cX6_init 6 = .ok (.putfield 9, 3) := by decide +kernel
theorem dX6_init_9 : decode cX6_init 9 = .ok (.aload_n 0, 1) := by decide +kernel
theorem dX6_init_10 : decode cX6_init 10 = .ok (.iconst 1, 1) := by decide +kernel
theorem dX6_init_11 : decode cX6_init 11 = .ok (.putfield 15, 3) := by decide +kernel
theorem dX6_init_14 : decode cX6_init 14 = .ok (.aload_n 0, 1) := by decide +kernel
theorem dX6_init_15 : decode cX6_init 15 = .ok (.bipush 64, 2) := by decide +kernel
theorem dX6_init_17 : decode cX6_init 17 = .ok (.newarray .int, 2) := by decide +kernel
theorem dX6_init_19 : decode cX6_init 19 = .ok (.putfield 18, 3) := by decide +kernel
theorem dX6_init_22 : decode cX6_init 22 = .ok (.aload_n 0, 1) := by decide +kernel
theorem dX6_init_23 : decode cX6_init 23 = .ok (.bipush 64, 2) := by decide +kernel
theorem dX6_init_25 : decode cX6_init 25 = .ok (.newarray .int, 2) := by decide +kernel
theorem dX6_init_27 : decode cX6_init 27 = .ok (.putfield 22, 3) := by decide +kernel
theorem dX6_init_30 : decode cX6_init 30 = .ok (.return_, 1) := by decide +kernel
theorem dX6_size_0 : decode cX6_size 0 = .ok (.aload_n 0, 1) := by decide +kernel
theorem dX6_size_1 : decode cX6_size 1 = .ok (.getfield 9, 3) := by decide +kernel
theorem dX6_size_4 : decode cX6_size 4 = .ok (.aload_n 0, 1) := by decide +kernel
theorem dX6_size_5 : decode cX6_size 5 = .ok (.getfield 15, 3) := by decide +kernel
theorem dX6_size_8 : decode cX6_size 8 = .ok (.imul, 1) := by decide +kernel
theorem dX6_size_9 : decode cX6_size 9 = .ok (.ireturn, 1) := by decide +kernel
theorem dX6_blank_0 : decode cX6_blank 0 = .ok (.aload_n 0, 1) := by decide +kernel
theorem dX6_blank_1 : decode cX6_blank 1 = .ok (.iload_n 1, 1) := by decide +kernel
theorem dX6_blank_2 : decode cX6_blank 2 = .ok (.putfield 9, 3) := by decide +kernel
theorem dX6_blank_5 : decode cX6_blank 5 = .ok (.aload_n 0, 1) := by decide +kernel
theorem dX6_blank_6 : decode cX6_blank 6 = .ok (.iload_n 2, 1) := by decide +kernel
theorem dX6_blank_7 : decode cX6_blank 7 = .ok (.putfield 15, 3) := by decide +kernel
theorem dX6_blank_10 : decode cX6_blank 10 = .ok (.aload_n 0, 1) := by decide +kernel
theorem dX6_blank_11 : decode cX6_blank 11 = .ok (.getfield 18, 3) := by decide +kernel
theorem dX6_blank_14 : decode cX6_blank 14 = .ok (.iconst 0, 1) := by decide +kernel
theorem dX6_blank_15 : decode cX6_blank 15 = .ok (.invokestatic 25, 3) := by decide +kernel
theorem dX6_blank_18 : decode cX6_blank 18 = .ok (.aload_n 0, 1) := by decide +kernel
theorem dX6_blank_19 : decode cX6_blank 19 = .ok (.getfield 22, 3) := by decide +kernel
theorem dX6_blank_22 : decode cX6_blank 22 = .ok (.iconst 0, 1) := by decide +kernel
theorem dX6_blank_23 : decode cX6_blank 23 = .ok (.invokestatic 25, 3) := by decide +kernel
theorem dX6_blank_26 : decode cX6_blank 26 = .ok (.return_, 1) := by decide +kernel
theorem dX6_copyFrom_0 : decode cX6_copyFrom 0 = .ok (.aload_n 0, 1) := by decide +kernel
theorem dX6_copyFrom_1 : decode cX6_copyFrom 1 = .ok (.aload_n 1, 1) := by decide +kernel
theorem dX6_copyFrom_2 : decode cX6_copyFrom 2 = .ok (.getfield 9, 3) := by decide +kernel
theorem dX6_copyFrom_5 : decode cX6_copyFrom 5 = .ok (.putfield 9, 3) := by decide +kernel
theorem dX6_copyFrom_8 : decode cX6_copyFrom 8 = .ok (.aload_n 0, 1) := by decide +kernel
theorem dX6_copyFrom_9 : decode cX6_copyFrom 9 = .ok (.aload_n 1, 1) := by decide +kernel
theorem dX6_copyFrom_10 : decode cX6_copyFrom 10 = .ok (.getfield 15, 3) := by decide +kernel
theorem dX6_copyFrom_13 : decode cX6_copyFrom 13 = .ok (.putfield 15, 3) := by decide +kernel
theorem dX6_copyFrom_16 : decode cX6_copyFrom 16 = .ok (.aload_n 1, 1) := by decide +kernel
theorem dX6_copyFrom_17 : decode cX6_copyFrom 17 = .ok (.getfield 18, 3) := by decide +kernel
theorem dX6_copyFrom_20 : decode cX6_copyFrom 20 = .ok (.iconst 0, 1) := by decide +kernel
theorem dX6_copyFrom_21 : decode cX6_copyFrom 21 = .ok (.aload_n 0, 1) := by decide +kernel
theorem dX6_copyFrom_22 : decode cX6_copyFrom 22 = .ok (.getfield 18, 3) := by decide +kernel
theorem dX6_copyFrom_25 : decode cX6_copyFrom 25 = .ok (.iconst 0, 1) := by decide +kernel
theorem dX6_copyFrom_26 : decode cX6_copyFrom 26 = .ok (.bipush 64, 2) := by decide +kernel
theorem dX6_copyFrom_28 : decode cX6_copyFrom 28 = .ok (.invokestatic 31, 3) := by decide +kernel
theorem dX6_copyFrom_31 : decode cX6_copyFrom 31 = .ok (.aload_n 1, 1) := by decide +kernel
theorem dX6_copyFrom_32 : decode cX6_copyFrom 32 = .ok (.getfield 22, 3) := by decide +kernel
theorem dX6_copyFrom_35 : decode cX6_copyFrom 35 = .ok (.iconst 0, 1) := by decide +kernel
theorem dX6_copyFrom_36 : decode cX6_copyFrom 36 = .ok (.aload_n 0, 1) := by decide +kernel
theorem dX6_copyFrom_37 : decode cX6_copyFrom 37 = .ok (.getfield 22, 3) := by decide +kernel
theorem dX6_copyFrom_40 : decode cX6_copyFrom 40 = .ok (.iconst 0, 1) := by decide +kernel
theorem dX6_copyFrom_41 : decode cX6_copyFrom 41 = .ok (.bipush 64, 2) := by decide +kernel
theorem dX6_copyFrom_43 : decode cX6_copyFrom 43 = .ok (.invokestatic 31, 3) := by decide +kernel
theorem dX6_copyFrom_46 : decode cX6_copyFrom 46 = .ok (.return_, 1) := by decide +kernel
theorem dX6_rowOf_0 : decode cX6_rowOf 0 = .ok (.aload_n 0, 1) := by decide +kernel
theorem dX6_rowOf_1 : decode cX6_rowOf 1 = .ok (.getfield 9, 3) := by decide +kernel
theorem dX6_rowOf_4 : decode cX6_rowOf 4 = .ok (.iconst 1, 1) := by decide +kernel
theorem dX6_rowOf_5 : decode cX6_rowOf 5 = .ok (.if_icmp .ge 7, 3) := by decide +kernel
theorem dX6_rowOf_8 : decode cX6_rowOf 8 = .ok (.iconst 0, 1) := by decide +kernel
theorem dX6_rowOf_9 : decode cX6_rowOf 9 = .ok (.goto 9, 3) := by decide +kernel
theorem dX6_rowOf_12 : decode cX6_rowOf 12 = .ok (.iload_n 1, 1) := by decide +kernel
theorem dX6_rowOf_13 : decode cX6_rowOf 13 = .ok (.aload_n 0, 1) := by decide +kernel
theorem dX6_rowOf_14 : decode cX6_rowOf 14 = .ok (.getfield 9, 3) := by decide +kernel
theorem dX6_rowOf_17 : decode cX6_rowOf 17 = .ok (.idiv, 1) := by decide +kernel
theorem dX6_rowOf_18 : decode cX6_rowOf 18 = .ok (.ireturn, 1) := by decide +kernel
theorem dX6_columnOf_0 : decode cX6_columnOf 0 = .ok (.iload_n 1, 1) := by decide +kernel
theorem dX6_columnOf_1 : decode cX6_columnOf 1 = .ok (.aload_n 0, 1) := by decide +kernel
theorem dX6_columnOf_2 : decode cX6_columnOf 2 = .ok (.iload_n 1, 1) := by decide +kernel
theorem dX6_columnOf_3 : decode cX6_columnOf 3 = .ok (.invokevirtual 37, 3) := by decide +kernel
theorem dX6_columnOf_6 : decode cX6_columnOf 6 = .ok (.aload_n 0, 1) := by decide +kernel
theorem dX6_columnOf_7 : decode cX6_columnOf 7 = .ok (.getfield 9, 3) := by decide +kernel
theorem dX6_columnOf_10 : decode cX6_columnOf 10 = .ok (.imul, 1) := by decide +kernel
theorem dX6_columnOf_11 : decode cX6_columnOf 11 = .ok (.isub, 1) := by decide +kernel
theorem dX6_columnOf_12 : decode cX6_columnOf 12 = .ok (.ireturn, 1) := by decide +kernel
theorem dX6_paint_0 : decode cX6_paint 0 = .ok (.aload_n 0, 1) := by decide +kernel
theorem dX6_paint_1 : decode cX6_paint 1 = .ok (.iload_n 1, 1) := by decide +kernel
theorem dX6_paint_2 : decode cX6_paint 2 = .ok (.invokevirtual 41, 3) := by decide +kernel
theorem dX6_paint_5 : decode cX6_paint 5 = .ok (.aload_n 0, 1) := by decide +kernel
theorem dX6_paint_6 : decode cX6_paint 6 = .ok (.iload_n 2, 1) := by decide +kernel
theorem dX6_paint_7 : decode cX6_paint 7 = .ok (.invokevirtual 41, 3) := by decide +kernel
theorem dX6_paint_10 : decode cX6_paint 10 = .ok (.invokestatic 44, 3) := by decide +kernel
theorem dX6_paint_13 : decode cX6_paint 13 = .ok (.istore 4, 2) := by decide +kernel
theorem dX6_paint_15 : decode cX6_paint 15 = .ok (.aload_n 0, 1) := by decide +kernel
theorem dX6_paint_16 : decode cX6_paint 16 = .ok (.iload_n 1, 1) := by decide +kernel
theorem dX6_paint_17 : decode cX6_paint 17 = .ok (.invokevirtual 41, 3) := by decide +kernel
theorem dX6_paint_20 : decode cX6_paint 20 = .ok (.aload_n 0, 1) := by decide +kernel
theorem dX6_paint_21 : decode cX6_paint 21 = .ok (.iload_n 2, 1) := by decide +kernel
theorem dX6_paint_22 : decode cX6_paint 22 = .ok (.invokevirtual 41, 3) := by decide +kernel
theorem dX6_paint_25 : decode cX6_paint 25 = .ok (.invokestatic 50, 3) := by decide +kernel
theorem dX6_paint_28 : decode cX6_paint 28 = .ok (.istore 5, 2) := by decide +kernel
theorem dX6_paint_30 : decode cX6_paint 30 = .ok (.aload_n 0, 1) := by decide +kernel
theorem dX6_paint_31 : decode cX6_paint 31 = .ok (.iload_n 1, 1) := by decide +kernel
theorem dX6_paint_32 : decode cX6_paint 32 = .ok (.invokevirtual 37, 3) := by decide +kernel
theorem dX6_paint_35 : decode cX6_paint 35 = .ok (.aload_n 0, 1) := by decide +kernel
theorem dX6_paint_36 : decode cX6_paint 36 = .ok (.iload_n 2, 1) := by decide +kernel
theorem dX6_paint_37 : decode cX6_paint 37 = .ok (.invokevirtual 37, 3) := by decide +kernel
theorem dX6_paint_40 : decode cX6_paint 40 = .ok (.invokestatic 44, 3) := by decide +kernel
theorem dX6_paint_43 : decode cX6_paint 43 = .ok (.istore 6, 2) := by decide +kernel
theorem dX6_paint_45 : decode cX6_paint 45 = .ok (.aload_n 0, 1) := by decide +kernel
theorem dX6_paint_46 : decode cX6_paint 46 = .ok (.iload_n 1, 1) := by decide +kernel
theorem dX6_paint_47 : decode cX6_paint 47 = .ok (.invokevirtual 37, 3) := by decide +kernel
theorem dX6_paint_50 : decode cX6_paint 50 = .ok (.aload_n 0, 1) := by decide +kernel
theorem dX6_paint_51 : decode cX6_paint 51 = .ok (.iload_n 2, 1) := by decide +kernel
theorem dX6_paint_52 : decode cX6_paint 52 = .ok (.invokevirtual 37, 3) := by decide +kernel
theorem dX6_paint_55 : decode cX6_paint 55 = .ok (.invokestatic 50, 3) := by decide +kernel
theorem dX6_paint_58 : decode cX6_paint 58 = .ok (.istore 7, 2) := by decide +kernel
theorem dX6_paint_60 : decode cX6_paint 60 = .ok (.iconst 0, 1) := by decide +kernel
theorem dX6_paint_61 : decode cX6_paint 61 = .ok (.istore 8, 2) := by decide +kernel
theorem dX6_paint_63 : decode cX6_paint 63 = .ok (.iload 6, 2) := by decide +kernel
theorem dX6_paint_65 : decode cX6_paint 65 = .ok (.istore 9, 2) := by decide +kernel
theorem dX6_paint_67 : decode cX6_paint 67 = .ok (.iload 9, 2) := by decide +kernel
theorem dX6_paint_69 : decode cX6_paint 69 = .ok (.iload 7, 2) := by decide +kernel
theorem dX6_paint_71 : decode cX6_paint 71 = .ok (.if_icmp .gt 67, 3) := by decide +kernel
theorem dX6_paint_74 : decode cX6_paint 74 = .ok (.iload 4, 2) := by decide +kernel
theorem dX6_paint_76 : decode cX6_paint 76 = .ok (.istore 10, 2) := by decide +kernel
theorem dX6_paint_78 : decode cX6_paint 78 = .ok (.iload 10, 2) := by decide +kernel
theorem dX6_paint_80 : decode cX6_paint 80 = .ok (.iload 5, 2) := by decide +kernel
theorem dX6_paint_82 : decode cX6_paint 82 = .ok (.if_icmp .gt 50, 3) := by decide +kernel
theorem dX6_paint_85 : decode cX6_paint 85 = .ok (.iload 9, 2) := by decide +kernel
theorem dX6_paint_87 : decode cX6_paint 87 = .ok (.aload_n 0, 1) := by decide +kernel
theorem dX6_paint_88 : decode cX6_paint 88 = .ok (.getfield 9, 3) := by decide +kernel
theorem dX6_paint_91 : decode cX6_paint 91 = .ok (.imul, 1) := by decide +kernel
theorem dX6_paint_92 : decode cX6_paint 92 = .ok (.iload 10, 2) := by decide +kernel
theorem dX6_paint_94 : decode cX6_paint 94 = .ok (.iadd, 1) := by decide +kernel
theorem dX6_paint_95 : decode cX6_paint 95 = .ok (.istore 11, 2) := by decide +kernel
theorem dX6_paint_97 : decode cX6_paint 97 = .ok (.iload 8, 2) := by decide +kernel
theorem dX6_paint_99 : decode cX6_paint 99 = .ok (.aload_n 0, 1) := by decide +kernel
theorem dX6_paint_100 : decode cX6_paint 100 = .ok (.getfield 18, 3) := by decide +kernel
theorem dX6_paint_103 : decode cX6_paint 103 = .ok (.iload 11, 2) := by decide +kernel
theorem dX6_paint_105 : decode cX6_paint 105 = .ok (.iaload, 1) := by decide +kernel
theorem dX6_paint_106 : decode cX6_paint 106 = .ok (.iload_n 3, 1) := by decide +kernel
theorem dX6_paint_107 : decode cX6_paint 107 = .ok (.if_icmp .ne 7, 3) := by decide +kernel
theorem dX6_paint_110 : decode cX6_paint 110 = .ok (.iconst 0, 1) := by decide +kernel
theorem dX6_paint_111 : decode cX6_paint 111 = .ok (.goto 4, 3) := by decide +kernel
theorem dX6_paint_114 : decode cX6_paint 114 = .ok (.iconst 1, 1) := by decide +kernel
theorem dX6_paint_115 : decode cX6_paint 115 = .ok (.iadd, 1) := by decide +kernel
theorem dX6_paint_116 : decode cX6_paint 116 = .ok (.istore 8, 2) := by decide +kernel
theorem dX6_paint_118 : decode cX6_paint 118 = .ok (.aload_n 0, 1) := by decide +kernel
theorem dX6_paint_119 : decode cX6_paint 119 = .ok (.getfield 18, 3) := by decide +kernel
theorem dX6_paint_122 : decode cX6_paint 122 = .ok (.iload 11, 2) := by decide +kernel
theorem dX6_paint_124 : decode cX6_paint 124 = .ok (.iload_n 3, 1) := by decide +kernel
theorem dX6_paint_125 : decode cX6_paint 125 = .ok (.iastore, 1) := by decide +kernel
theorem dX6_paint_126 : decode cX6_paint 126 = .ok (.iinc 10 1, 3) := by decide +kernel
theorem dX6_paint_129 : decode cX6_paint 129 = .ok (.goto (-51), 3) := by decide +kernel
theorem dX6_paint_132 : decode cX6_paint 132 = .ok (.iinc 9 1, 3) := by decide +kernel
theorem dX6_paint_135 : decode cX6_paint 135 = .ok (.goto (-68), 3) := by decide +kernel
theorem dX6_paint_138 : decode cX6_paint 138 = .ok (.iload 8, 2) := by decide +kernel
theorem dX6_paint_140 : decode cX6_paint 140 = .ok (.ireturn, 1) := by decide +kernel
theorem dX6_differentLevels_0 : decode cX6_differentLevels 0 = .ok (.iconst 0, 1) := by decide +kernel
theorem dX6_differentLevels_1 : decode cX6_differentLevels 1 = .ok (.istore_n 1, 1) := by decide +kernel
theorem dX6_differentLevels_2 : decode cX6_differentLevels 2 = .ok (.iconst 0, 1) := by decide +kernel
theorem dX6_differentLevels_3 : decode cX6_differentLevels 3 = .ok (.istore_n 2, 1) := by decide +kernel
theorem dX6_differentLevels_4 : decode cX6_differentLevels 4 = .ok (.iload_n 2, 1) := by decide +kernel
theorem dX6_differentLevels_5 : decode cX6_differentLevels 5 = .ok (.aload_n 0, 1) := by decide +kernel
theorem dX6_differentLevels_6 : decode cX6_differentLevels 6 = .ok (.invokevirtual 53, 3) := by decide +kernel
theorem dX6_differentLevels_9 : decode cX6_differentLevels 9 = .ok (.if_icmp .ge 20, 3) := by decide +kernel
theorem dX6_differentLevels_12 : decode cX6_differentLevels 12 = .ok (.iload_n 1, 1) := by decide +kernel
theorem dX6_differentLevels_13 : decode cX6_differentLevels 13 = .ok (.iconst 1, 1) := by decide +kernel
theorem dX6_differentLevels_14 : decode cX6_differentLevels 14 = .ok (.aload_n 0, 1) := by decide +kernel
theorem dX6_differentLevels_15 : decode cX6_differentLevels 15 = .ok (.getfield 18, 3) := by decide +kernel
theorem dX6_differentLevels_18 : decode cX6_differentLevels 18 = .ok (.iload_n 2, 1) := by decide +kernel
theorem dX6_differentLevels_19 : decode cX6_differentLevels 19 = .ok (.iaload, 1) := by decide +kernel
theorem dX6_differentLevels_20 : decode cX6_differentLevels 20 = .ok (.ishl, 1) := by decide +kernel
theorem dX6_differentLevels_21 : decode cX6_differentLevels 21 = .ok (.ior, 1) := by decide +kernel
theorem dX6_differentLevels_22 : decode cX6_differentLevels 22 = .ok (.istore_n 1, 1) := by decide +kernel
theorem dX6_differentLevels_23 : decode cX6_differentLevels 23 = .ok (.iinc 2 1, 3) := by decide +kernel
theorem dX6_differentLevels_26 : decode cX6_differentLevels 26 = .ok (.goto (-22), 3) := by decide +kernel
theorem dX6_differentLevels_29 : decode cX6_differentLevels 29 = .ok (.iload_n 1, 1) := by decide +kernel
theorem dX6_differentLevels_30 : decode cX6_differentLevels 30 = .ok (.invokestatic 57, 3) := by decide +kernel
theorem dX6_differentLevels_33 : decode cX6_differentLevels 33 = .ok (.ireturn, 1) := by decide +kernel
theorem dX6_sumOfLevels_0 : decode cX6_sumOfLevels 0 = .ok (.iconst 0, 1) := by decide +kernel
theorem dX6_sumOfLevels_1 : decode cX6_sumOfLevels 1 = .ok (.istore_n 1, 1) := by decide +kernel
theorem dX6_sumOfLevels_2 : decode cX6_sumOfLevels 2 = .ok (.iconst 0, 1) := by decide +kernel
theorem dX6_sumOfLevels_3 : decode cX6_sumOfLevels 3 = .ok (.istore_n 2, 1) := by decide +kernel
theorem dX6_sumOfLevels_4 : decode cX6_sumOfLevels 4 = .ok (.iload_n 2, 1) := by decide +kernel
theorem dX6_sumOfLevels_5 : decode cX6_sumOfLevels 5 = .ok (.aload_n 0, 1) := by decide +kernel
theorem dX6_sumOfLevels_6 : decode cX6_sumOfLevels 6 = .ok (.invokevirtual 53, 3) := by decide +kernel
theorem dX6_sumOfLevels_9 : decode cX6_sumOfLevels 9 = .ok (.if_icmp .ge 18, 3) := by decide +kernel
theorem dX6_sumOfLevels_12 : decode cX6_sumOfLevels 12 = .ok (.iload_n 1, 1) := by decide +kernel
theorem dX6_sumOfLevels_13 : decode cX6_sumOfLevels 13 = .ok (.aload_n 0, 1) := by decide +kernel
theorem dX6_sumOfLevels_14 : decode cX6_sumOfLevels 14 = .ok (.getfield 18, 3) := by decide +kernel
theorem dX6_sumOfLevels_17 : decode cX6_sumOfLevels 17 = .ok (.iload_n 2, 1) := by decide +kernel
theorem dX6_sumOfLevels_18 : decode cX6_sumOfLevels 18 = .ok (.iaload, 1) := by decide +kernel
theorem dX6_sumOfLevels_19 : decode cX6_sumOfLevels 19 = .ok (.iadd, 1) := by decide +kernel
theorem dX6_sumOfLevels_20 : decode cX6_sumOfLevels 20 = .ok (.istore_n 1, 1) := by decide +kernel
theorem dX6_sumOfLevels_21 : decode cX6_sumOfLevels 21 = .ok (.iinc 2 1, 3) := by decide +kernel
theorem dX6_sumOfLevels_24 : decode cX6_sumOfLevels 24 = .ok (.goto (-20), 3) := by decide +kernel
theorem dX6_sumOfLevels_27 : decode cX6_sumOfLevels 27 = .ok (.iload_n 1, 1) := by decide +kernel
theorem dX6_sumOfLevels_28 : decode cX6_sumOfLevels 28 = .ok (.ireturn, 1) := by decide +kernel
