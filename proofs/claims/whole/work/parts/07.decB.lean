theorem dX7_init_0 : decode cX7_init 0 = .ok (.aload_n 0, 1) := by decide +kernel
theorem dX7_init_1 : decode cX7_init 1 = .ok (.invokespecial 1, 3) := by decide +kernel
theorem dX7_init_4 : decode cX7_init 4 = .ok (.aload_n 0, 1) := by decide +kernel
theorem dX7_init_5 : decode cX7_init 5 = .ok (.new 7, 3) := by decide +kernel
theorem dX7_init_8 : decode cX7_init 8 = .ok (.dup, 1) := by decide +kernel
theorem dX7_init_9 : decode cX7_init 9 = .ok (.invokespecial 9, 3) := by decide +kernel
theorem dX7_init_12 : decode cX7_init 12 = .ok (.putfield 10, 3) := by decide +kernel
theorem dX7_init_15 : decode cX7_init 15 = .ok (.aload_n 0, 1) := by decide +kernel
theorem dX7_init_16 : decode cX7_init 16 = .ok (.new 7, 3) := by decide +kernel
theorem dX7_init_19 : decode cX7_init 19 = .ok (.dup, 1) := by decide +kernel
theorem dX7_init_20 : decode cX7_init 20 = .ok (.invokespecial 9, 3) := by decide +kernel
theorem dX7_init_23 : decode cX7_init 23 = .ok (.putfield 16, 3) := by decide +kernel
theorem dX7_init_26 : decode cX7_init 26 = .ok (.aload_n 0, 1) := by decide +kernel
theorem dX7_init_27 : decode cX7_init 27 = .ok (.new 19, 3) := by decide +kernel
theorem dX7_init_30 : decode cX7_init 30 = .ok (.dup, 1) := by decide +kernel
theorem dX7_init_31 : decode cX7_init 31 = .ok (.invokespecial 21, 3) := by decide +kernel
theorem dX7_init_34 : decode cX7_init 34 = .ok (.putfield 22, 3) := by decide +kernel
theorem dX7_init_37 : decode cX7_init 37 = .ok (.aload_n 0, 1) := by decide +kernel
theorem dX7_init_38 : decode cX7_init 38 = .ok (.new 26, 3) := by decide +kernel
theorem dX7_init_41 : decode cX7_init 41 = .ok (.dup, 1) := by decide +kernel
theorem dX7_init_42 : decode cX7_init 42 = .ok (.invokespecial 28, 3) := by decide +kernel
theorem dX7_init_45 : decode cX7_init 45 = .ok (.putfield 29, 3) := by decide +kernel
theorem dX7_init_48 : decode cX7_init 48 = .ok (.aload_n 0, 1) := by decide +kernel
theorem dX7_init_49 : decode cX7_init 49 = .ok (.new 33, 3) := by decide +kernel
theorem dX7_init_52 : decode cX7_init 52 = .ok (.dup, 1) := by decide +kernel
theorem dX7_init_53 : decode cX7_init 53 = .ok (.invokespecial 35, 3) := by decide +kernel
theorem dX7_init_56 : decode cX7_init 56 = .ok (.putfield 36, 3) := by decide +kernel
theorem dX7_init_59 : decode cX7_init 59 = .ok (.aload_n 0, 1) := by decide +kernel
theorem dX7_init_60 : decode cX7_init 60 = .ok (.new 33, 3) := by decide +kernel
theorem dX7_init_63 : decode cX7_init 63 = .ok (.dup, 1) := by decide +kernel
theorem dX7_init_64 : decode cX7_init 64 = .ok (.invokespecial 35, 3) := by decide +kernel
theorem dX7_init_67 : decode cX7_init 67 = .ok (.putfield 40, 3) := by decide +kernel
theorem dX7_init_70 : decode cX7_init 70 = .ok (.aload_n 0, 1) := by decide +kernel
theorem dX7_init_71 : decode cX7_init 71 = .ok (.new 43, 3) := by decide +kernel
theorem dX7_init_74 : decode cX7_init 74 = .ok (.dup, 1) := by decide +kernel
theorem dX7_init_75 : decode cX7_init 75 = .ok (.invokespecial 45, 3) := by decide +kernel
theorem dX7_init_78 : decode cX7_init 78 = .ok (.putfield 46, 3) := by decide +kernel
theorem dX7_init_81 : decode cX7_init 81 = .ok (.aload_n 0, 1) := by decide +kernel
theorem dX7_init_82 : decode cX7_init 82 = .ok (.new 50, 3) := by decide +kernel
theorem dX7_init_85 : decode cX7_init 85 = .ok (.dup, 1) := by decide +kernel
theorem dX7_init_86 : decode cX7_init 86 = .ok (.invokespecial 52, 3) := by decide +kernel
theorem dX7_init_89 : decode cX7_init 89 = .ok (.putfield 53, 3) := by decide +kernel
theorem dX7_init_92 : decode cX7_init 92 = .ok (.aload_n 0, 1) := by decide +kernel
theorem dX7_init_93 : decode cX7_init 93 = .ok (.bipush 64, 2) := by decide +kernel
theorem dX7_init_95 : decode cX7_init 95 = .ok (.newarray .int, 2) := by decide +kernel
theorem dX7_init_97 : decode cX7_init 97 = .ok (.putfield 57, 3) := by decide +kernel
theorem dX7_init_100 : decode cX7_init 100 = .ok (.aload_n 0, 1) := by decide +kernel
theorem dX7_init_101 : decode cX7_init 101 = .ok (.iconst 0, 1) := by decide +kernel
theorem dX7_init_102 : decode cX7_init 102 = .ok (.putfield 61, 3) := by decide +kernel
theorem dX7_init_105 : decode cX7_init 105 = .ok (.aload_n 0, 1) := by decide +kernel
theorem dX7_init_106 : decode cX7_init 106 = .ok (.iconst 0, 1) := by decide +kernel
theorem dX7_init_107 : decode cX7_init 107 = .ok (.putfield 65, 3) := by decide +kernel
theorem dX7_init_110 : decode cX7_init 110 = .ok (.aload_n 0, 1) := by decide +kernel
theorem dX7_init_111 : decode cX7_init 111 = .ok (.iconst 1, 1) := by decide +kernel
theorem dX7_init_112 : decode cX7_init 112 = .ok (.putfield 68, 3) := by decide +kernel
theorem dX7_init_115 : decode cX7_init 115 = .ok (.return_, 1) := by decide +kernel
theorem dX7_begin_0 : decode cX7_begin 0 = .ok (.iload_n 1, 1) := by decide +kernel
theorem dX7_begin_1 : decode cX7_begin 1 = .ok (.iconst 1, 1) := by decide +kernel
theorem dX7_begin_2 : decode cX7_begin 2 = .ok (.if_icmp .lt 13, 3) := by decide +kernel
theorem dX7_begin_5 : decode cX7_begin 5 = .ok (.iload_n 1, 1) := by decide +kernel
theorem dX7_begin_6 : decode cX7_begin 6 = .ok (.bipush 8, 2) := by decide +kernel
theorem dX7_begin_8 : decode cX7_begin 8 = .ok (.if_icmp .gt 7, 3) := by decide +kernel
theorem dX7_begin_11 : decode cX7_begin 11 = .ok (.iconst 1, 1) := by decide +kernel
theorem dX7_begin_12 : decode cX7_begin 12 = .ok (.goto 4, 3) := by decide +kernel
theorem dX7_begin_15 : decode cX7_begin 15 = .ok (.iconst 0, 1) := by decide +kernel
theorem dX7_begin_16 : decode cX7_begin 16 = .ok (.invokestatic 71, 3) := by decide +kernel
theorem dX7_begin_19 : decode cX7_begin 19 = .ok (.iload_n 2, 1) := by decide +kernel
theorem dX7_begin_20 : decode cX7_begin 20 = .ok (.iconst 1, 1) := by decide +kernel
theorem dX7_begin_21 : decode cX7_begin 21 = .ok (.if_icmp .lt 13, 3) := by decide +kernel
theorem dX7_begin_24 : decode cX7_begin 24 = .ok (.iload_n 2, 1) := by decide +kernel
theorem dX7_begin_25 : decode cX7_begin 25 = .ok (.bipush 8, 2) := by decide +kernel
theorem dX7_begin_27 : decode cX7_begin 27 = .ok (.if_icmp .gt 7, 3) := by decide +kernel
theorem dX7_begin_30 : decode cX7_begin 30 = .ok (.iconst 1, 1) := by decide +kernel
theorem dX7_begin_31 : decode cX7_begin 31 = .ok (.goto 4, 3) := by decide +kernel
theorem dX7_begin_34 : decode cX7_begin 34 = .ok (.iconst 0, 1) := by decide +kernel
theorem dX7_begin_35 : decode cX7_begin 35 = .ok (.invokestatic 71, 3) := by decide +kernel
theorem dX7_begin_38 : decode cX7_begin 38 = .ok (.aload_n 0, 1) := by decide +kernel
theorem dX7_begin_39 : decode cX7_begin 39 = .ok (.getfield 10, 3) := by decide +kernel
theorem dX7_begin_42 : decode cX7_begin 42 = .ok (.invokevirtual 75, 3) := by decide +kernel
theorem dX7_begin_45 : decode cX7_begin 45 = .ok (.istore_n 3, 1) := by decide +kernel
theorem dX7_begin_46 : decode cX7_begin 46 = .ok (.aload_n 0, 1) := by decide +kernel
theorem dX7_begin_47 : decode cX7_begin 47 = .ok (.getfield 22, 3) := by decide +kernel
theorem dX7_begin_50 : decode cX7_begin 50 = .ok (.aload_n 0, 1) := by decide +kernel
theorem dX7_begin_51 : decode cX7_begin 51 = .ok (.getfield 10, 3) := by decide +kernel
theorem dX7_begin_54 : decode cX7_begin 54 = .ok (.invokevirtual 79, 3) := by decide +kernel
theorem dX7_begin_57 : decode cX7_begin 57 = .ok (.aload_n 0, 1) := by decide +kernel
theorem dX7_begin_58 : decode cX7_begin 58 = .ok (.getfield 10, 3) := by decide +kernel
theorem dX7_begin_61 : decode cX7_begin 61 = .ok (.iload_n 1, 1) := by decide +kernel
theorem dX7_begin_62 : decode cX7_begin 62 = .ok (.iload_n 2, 1) := by decide +kernel
theorem dX7_begin_63 : decode cX7_begin 63 = .ok (.invokevirtual 83, 3) := by decide +kernel
theorem dX7_begin_66 : decode cX7_begin 66 = .ok (.aload_n 0, 1) := by decide +kernel
theorem dX7_begin_67 : decode cX7_begin 67 = .ok (.iconst 1, 1) := by decide +kernel
theorem dX7_begin_68 : decode cX7_begin 68 = .ok (.putfield 68, 3) := by decide +kernel
theorem dX7_begin_71 : decode cX7_begin 71 = .ok (.iload_n 3, 1) := by decide +kernel
theorem dX7_begin_72 : decode cX7_begin 72 = .ok (.ireturn, 1) := by decide +kernel
theorem dX7_setLevel_0 : decode cX7_setLevel 0 = .ok (.aload_n 0, 1) := by decide +kernel
theorem dX7_setLevel_1 : decode cX7_setLevel 1 = .ok (.iload_n 1, 1) := by decide +kernel
theorem dX7_setLevel_2 : decode cX7_setLevel 2 = .ok (.invokevirtual 87, 3) := by decide +kernel
theorem dX7_setLevel_5 : decode cX7_setLevel 5 = .ok (.iload_n 2, 1) := by decide +kernel
theorem dX7_setLevel_6 : decode cX7_setLevel 6 = .ok (.invokestatic 91, 3) := by decide +kernel
theorem dX7_setLevel_9 : decode cX7_setLevel 9 = .ok (.invokestatic 71, 3) := by decide +kernel
theorem dX7_setLevel_12 : decode cX7_setLevel 12 = .ok (.aload_n 0, 1) := by decide +kernel
theorem dX7_setLevel_13 : decode cX7_setLevel 13 = .ok (.getfield 10, 3) := by decide +kernel
theorem dX7_setLevel_16 : decode cX7_setLevel 16 = .ok (.getfield 95, 3) := by decide +kernel
theorem dX7_setLevel_19 : decode cX7_setLevel 19 = .ok (.iload_n 1, 1) := by decide +kernel
theorem dX7_setLevel_20 : decode cX7_setLevel 20 = .ok (.iaload, 1) := by decide +kernel
theorem dX7_setLevel_21 : decode cX7_setLevel 21 = .ok (.istore_n 3, 1) := by decide +kernel
theorem dX7_setLevel_22 : decode cX7_setLevel 22 = .ok (.aload_n 0, 1) := by decide +kernel
theorem dX7_setLevel_23 : decode cX7_setLevel 23 = .ok (.getfield 22, 3) := by decide +kernel
theorem dX7_setLevel_26 : decode cX7_setLevel 26 = .ok (.aload_n 0, 1) := by decide +kernel
theorem dX7_setLevel_27 : decode cX7_setLevel 27 = .ok (.getfield 10, 3) := by decide +kernel
theorem dX7_setLevel_30 : decode cX7_setLevel 30 = .ok (.invokevirtual 79, 3) := by decide +kernel
theorem dX7_setLevel_33 : decode cX7_setLevel 33 = .ok (.aload_n 0, 1) := by decide +kernel
theorem dX7_setLevel_34 : decode cX7_setLevel 34 = .ok (.getfield 10, 3) := by decide +kernel
theorem dX7_setLevel_37 : decode cX7_setLevel 37 = .ok (.getfield 95, 3) := by decide +kernel
theorem dX7_setLevel_40 : decode cX7_setLevel 40 = .ok (.iload_n 1, 1) := by decide +kernel
theorem dX7_setLevel_41 : decode cX7_setLevel 41 = .ok (.iload_n 2, 1) := by decide +kernel
theorem dX7_setLevel_42 : decode cX7_setLevel 42 = .ok (.iastore, 1) := by decide +kernel
theorem dX7_setLevel_43 : decode cX7_setLevel 43 = .ok (.aload_n 0, 1) := by decide +kernel
theorem dX7_setLevel_44 : decode cX7_setLevel 44 = .ok (.iconst 1, 1) := by decide +kernel
theorem dX7_setLevel_45 : decode cX7_setLevel 45 = .ok (.putfield 68, 3) := by decide +kernel
theorem dX7_setLevel_48 : decode cX7_setLevel 48 = .ok (.iload_n 3, 1) := by decide +kernel
theorem dX7_setLevel_49 : decode cX7_setLevel 49 = .ok (.ireturn, 1) := by decide +kernel
theorem dX7_fill_0 : decode cX7_fill 0 = .ok (.aload_n 0, 1) := by decide +kernel
theorem dX7_fill_1 : decode cX7_fill 1 = .ok (.iload_n 1, 1) := by decide +kernel
theorem dX7_fill_2 : decode cX7_fill 2 = .ok (.invokevirtual 87, 3) := by decide +kernel
theorem dX7_fill_5 : decode cX7_fill 5 = .ok (.aload_n 0, 1) := by decide +kernel
theorem dX7_fill_6 : decode cX7_fill 6 = .ok (.iload_n 2, 1) := by decide +kernel
theorem dX7_fill_7 : decode cX7_fill 7 = .ok (.invokevirtual 87, 3) := by decide +kernel
theorem dX7_fill_10 : decode cX7_fill 10 = .ok (.iload_n 3, 1) := by decide +kernel
theorem dX7_fill_11 : decode cX7_fill 11 = .ok (.invokestatic 91, 3) := by decide +kernel
theorem dX7_fill_14 : decode cX7_fill 14 = .ok (.invokestatic 71, 3) := by decide +kernel
theorem dX7_fill_17 : decode cX7_fill 17 = .ok (.aload_n 0, 1) := by decide +kernel
theorem dX7_fill_18 : decode cX7_fill 18 = .ok (.getfield 22, 3) := by decide +kernel
theorem dX7_fill_21 : decode cX7_fill 21 = .ok (.aload_n 0, 1) := by decide +kernel
theorem dX7_fill_22 : decode cX7_fill 22 = .ok (.getfield 10, 3) := by decide +kernel
theorem dX7_fill_25 : decode cX7_fill 25 = .ok (.invokevirtual 79, 3) := by decide +kernel
theorem dX7_fill_28 : decode cX7_fill 28 = .ok (.aload_n 0, 1) := by decide +kernel
theorem dX7_fill_29 : decode cX7_fill 29 = .ok (.iconst 1, 1) := by decide +kernel
theorem dX7_fill_30 : decode cX7_fill 30 = .ok (.putfield 68, 3) := by decide +kernel
theorem dX7_fill_33 : decode cX7_fill 33 = .ok (.aload_n 0, 1) := by decide +kernel
theorem dX7_fill_34 : decode cX7_fill 34 = .ok (.getfield 10, 3) := by decide +kernel
theorem dX7_fill_37 : decode cX7_fill 37 = .ok (.iload_n 1, 1) := by decide +kernel
theorem dX7_fill_38 : decode cX7_fill 38 = .ok (.iload_n 2, 1) := by decide +kernel
theorem dX7_fill_39 : decode cX7_fill 39 = .ok (.iload_n 3, 1) := by decide +kernel
theorem dX7_fill_40 : decode cX7_fill 40 = .ok (.invokevirtual 98, 3) := by decide +kernel
theorem dX7_fill_43 : decode cX7_fill 43 = .ok (.ireturn, 1) := by decide +kernel
theorem dX7_complement_0 : decode cX7_complement 0 = .ok (.aload_n 0, 1) := by decide +kernel
theorem dX7_complement_1 : decode cX7_complement 1 = .ok (.getfield 22, 3) := by decide +kernel
theorem dX7_complement_4 : decode cX7_complement 4 = .ok (.aload_n 0, 1) := by decide +kernel
theorem dX7_complement_5 : decode cX7_complement 5 = .ok (.getfield 10, 3) := by decide +kernel
theorem dX7_complement_8 : decode cX7_complement 8 = .ok (.invokevirtual 79, 3) := by decide +kernel
theorem dX7_complement_11 : decode cX7_complement 11 = .ok (.iconst 0, 1) := by decide +kernel
theorem dX7_complement_12 : decode cX7_complement 12 = .ok (.istore_n 1, 1) := by decide +kernel
theorem dX7_complement_13 : decode cX7_complement 13 = .ok (.iload_n 1, 1) := by decide +kernel
theorem dX7_complement_14 : decode cX7_complement 14 = .ok (.aload_n 0, 1) := by decide +kernel
theorem dX7_complement_15 : decode cX7_complement 15 = .ok (.getfield 10, 3) := by decide +kernel
theorem dX7_complement_18 : decode cX7_complement 18 = .ok (.invokevirtual 75, 3) := by decide +kernel
theorem dX7_complement_21 : decode cX7_complement 21 = .ok (.if_icmp .ge 30, 3) := by decide +kernel
theorem dX7_complement_24 : decode cX7_complement 24 = .ok (.aload_n 0, 1) := by decide +kernel
theorem dX7_complement_25 : decode cX7_complement 25 = .ok (.getfield 10, 3) := by decide +kernel
theorem dX7_complement_28 : decode cX7_complement 28 = .ok (.getfield 95, 3) := by decide +kernel
theorem dX7_complement_31 : decode cX7_complement 31 = .ok (.iload_n 1, 1) := by decide +kernel
theorem dX7_complement_32 : decode cX7_complement 32 = .ok (.bipush 15, 2) := by decide +kernel
theorem dX7_complement_34 : decode cX7_complement 34 = .ok (.aload_n 0, 1) := by decide +kernel
theorem dX7_complement_35 : decode cX7_complement 35 = .ok (.getfield 10, 3) := by decide +kernel
theorem dX7_complement_38 : decode cX7_complement 38 = .ok (.getfield 95, 3) := by decide +kernel
theorem dX7_complement_41 : decode cX7_complement 41 = .ok (.iload_n 1, 1) := by decide +kernel
theorem dX7_complement_42 : decode cX7_complement 42 = .ok (.iaload, 1) := by decide +kernel
theorem dX7_complement_43 : decode cX7_complement 43 = .ok (.isub, 1) := by decide +kernel
theorem dX7_complement_44 : decode cX7_complement 44 = .ok (.iastore, 1) := by decide +kernel
theorem dX7_complement_45 : decode cX7_complement 45 = .ok (.iinc 1 1, 3) := by decide +kernel
theorem dX7_complement_48 : decode cX7_complement 48 = .ok (.goto (-35), 3) := by decide +kernel
theorem dX7_complement_51 : decode cX7_complement 51 = .ok (.aload_n 0, 1) := by decide +kernel
theorem dX7_complement_52 : decode cX7_complement 52 = .ok (.iconst 1, 1) := by decide +kernel
theorem dX7_complement_53 : decode cX7_complement 53 = .ok (.putfield 68, 3) := by decide +kernel
theorem dX7_complement_56 : decode cX7_complement 56 = .ok (.aload_n 0, 1) := by decide +kernel
theorem dX7_complement_57 : decode cX7_complement 57 = .ok (.invokevirtual 102, 3) := by decide +kernel
theorem dX7_complement_60 : decode cX7_complement 60 = .ok (.aload_n 0, 1) := by decide +kernel
theorem dX7_complement_61 : decode cX7_complement 61 = .ok (.getfield 36, 3) := by decide +kernel
theorem dX7_complement_64 : decode cX7_complement 64 = .ok (.getfield 105, 3) := by decide +kernel
theorem dX7_complement_67 : decode cX7_complement 67 = .ok (.ireturn, 1) := by decide +kernel
theorem dX7_setMarker_0 : decode cX7_setMarker 0 = .ok (.aload_n 0, 1) := by decide +kernel
theorem dX7_setMarker_1 : decode cX7_setMarker 1 = .ok (.iload_n 1, 1) := by decide +kernel
theorem dX7_setMarker_2 : decode cX7_setMarker 2 = .ok (.invokevirtual 87, 3) := by decide +kernel
theorem dX7_setMarker_5 : decode cX7_setMarker 5 = .ok (.iload_n 2, 1) := by decide +kernel
theorem dX7_setMarker_6 : decode cX7_setMarker 6 = .ok (.invokestatic 91, 3) := by decide +kernel
theorem dX7_setMarker_9 : decode cX7_setMarker 9 = .ok (.invokestatic 71, 3) := by decide +kernel
theorem dX7_setMarker_12 : decode cX7_setMarker 12 = .ok (.aload_n 0, 1) := by decide +kernel
theorem dX7_setMarker_13 : decode cX7_setMarker 13 = .ok (.getfield 10, 3) := by decide +kernel
theorem dX7_setMarker_16 : decode cX7_setMarker 16 = .ok (.getfield 109, 3) := by decide +kernel
theorem dX7_setMarker_19 : decode cX7_setMarker 19 = .ok (.iload_n 1, 1) := by decide +kernel
theorem dX7_setMarker_20 : decode cX7_setMarker 20 = .ok (.iaload, 1) := by decide +kernel
theorem dX7_setMarker_21 : decode cX7_setMarker 21 = .ok (.istore_n 3, 1) := by decide +kernel
theorem dX7_setMarker_22 : decode cX7_setMarker 22 = .ok (.aload_n 0, 1) := by decide +kernel
theorem dX7_setMarker_23 : decode cX7_setMarker 23 = .ok (.getfield 10, 3) := by decide +kernel
theorem dX7_setMarker_26 : decode cX7_setMarker 26 = .ok (.getfield 109, 3) := by decide +kernel
theorem dX7_setMarker_29 : decode cX7_setMarker 29 = .ok (.iload_n 1, 1) := by decide +kernel
theorem dX7_setMarker_30 : decode cX7_setMarker 30 = .ok (.iload_n 2, 1) := by decide +kernel
theorem dX7_setMarker_31 : decode cX7_setMarker 31 = .ok (.iastore, 1) := by decide +kernel
theorem dX7_setMarker_32 : decode cX7_setMarker 32 = .ok (.iload_n 3, 1) := by decide +kernel
theorem dX7_setMarker_33 : decode cX7_setMarker 33 = .ok (.ireturn, 1) := by decide +kernel
theorem dX7_markAll_0 : decode cX7_markAll 0 = .ok (.iconst 0, 1) := by decide +kernel
theorem dX7_markAll_1 : decode cX7_markAll 1 = .ok (.istore_n 1, 1) := by decide +kernel
theorem dX7_markAll_2 : decode cX7_markAll 2 = .ok (.iconst 0, 1) := by decide +kernel
theorem dX7_markAll_3 : decode cX7_markAll 3 = .ok (.istore_n 2, 1) := by decide +kernel
theorem dX7_markAll_4 : decode cX7_markAll 4 = .ok (.iload_n 2, 1) := by decide +kernel
theorem dX7_markAll_5 : decode cX7_markAll 5 = .ok (.aload_n 0, 1) := by decide +kernel
theorem dX7_markAll_6 : decode cX7_markAll 6 = .ok (.getfield 10, 3) := by decide +kernel
theorem dX7_markAll_9 : decode cX7_markAll 9 = .ok (.invokevirtual 75, 3) := by decide +kernel
theorem dX7_markAll_12 : decode cX7_markAll 12 = .ok (.if_icmp .ge 51, 3) := by decide +kernel
theorem dX7_markAll_15 : decode cX7_markAll 15 = .ok (.aload_n 0, 1) := by decide +kernel
theorem dX7_markAll_16 : decode cX7_markAll 16 = .ok (.getfield 10, 3) := by decide +kernel
theorem dX7_markAll_19 : decode cX7_markAll 19 = .ok (.getfield 109, 3) := by decide +kernel
theorem dX7_markAll_22 : decode cX7_markAll 22 = .ok (.iload_n 2, 1) := by decide +kernel
theorem dX7_markAll_23 : decode cX7_markAll 23 = .ok (.iaload, 1) := by decide +kernel
theorem dX7_markAll_24 : decode cX7_markAll 24 = .ok (.aload_n 0, 1) := by decide +kernel
theorem dX7_markAll_25 : decode cX7_markAll 25 = .ok (.getfield 10, 3) := by decide +kernel
theorem dX7_markAll_28 : decode cX7_markAll 28 = .ok (.getfield 95, 3) := by decide +kernel
theorem dX7_markAll_31 : decode cX7_markAll 31 = .ok (.iload_n 2, 1) := by decide +kernel
theorem dX7_markAll_32 : decode cX7_markAll 32 = .ok (.iaload, 1) := by decide +kernel
theorem dX7_markAll_33 : decode cX7_markAll 33 = .ok (.if_icmp .eq 24, 3) := by decide +kernel
theorem dX7_markAll_36 : decode cX7_markAll 36 = .ok (.aload_n 0, 1) := by decide +kernel
theorem dX7_markAll_37 : decode cX7_markAll 37 = .ok (.getfield 10, 3) := by decide +kernel
theorem dX7_markAll_40 : decode cX7_markAll 40 = .ok (.getfield 109, 3) := by decide +kernel
theorem dX7_markAll_43 : decode cX7_markAll 43 = .ok (.iload_n 2, 1) := by decide +kernel
theorem dX7_markAll_44 : decode cX7_markAll 44 = .ok (.aload_n 0, 1) := by decide +kernel
theorem dX7_markAll_45 : decode cX7_markAll 45 = .ok (.getfield 10, 3) := by decide +kernel
theorem dX7_markAll_48 : decode cX7_markAll 48 = .ok (.getfield 95, 3) := by decide +kernel
theorem dX7_markAll_51 : decode cX7_markAll 51 = .ok (.iload_n 2, 1) := by decide +kernel
theorem dX7_markAll_52 : decode cX7_markAll 52 = .ok (.iaload, 1) := by decide +kernel
theorem dX7_markAll_53 : decode cX7_markAll 53 = .ok (.iastore, 1) := by decide +kernel
theorem dX7_markAll_54 : decode cX7_markAll 54 = .ok (.iinc 1 1, 3) := by decide +kernel
theorem dX7_markAll_57 : decode cX7_markAll 57 = .ok (.iinc 2 1, 3) := by decide +kernel
theorem dX7_markAll_60 : decode cX7_markAll 60 = .ok (.goto (-56), 3) := by decide +kernel
theorem dX7_markAll_63 : decode cX7_markAll 63 = .ok (.iload_n 1, 1) := by decide +kernel
theorem dX7_markAll_64 : decode cX7_markAll 64 = .ok (.ireturn, 1) := by decide +kernel
theorem dX7_level_0 : decode cX7_level 0 = .ok (.aload_n 0, 1) := by decide +kernel
theorem dX7_level_1 : decode cX7_level 1 = .ok (.iload_n 1, 1) := by decide +kernel
theorem dX7_level_2 : decode cX7_level 2 = .ok (.invokevirtual 87, 3) := by decide +kernel
theorem dX7_level_5 : decode cX7_level 5 = .ok (.aload_n 0, 1) := by decide +kernel
theorem dX7_level_6 : decode cX7_level 6 = .ok (.getfield 10, 3) := by decide +kernel
theorem dX7_level_9 : decode cX7_level 9 = .ok (.getfield 95, 3) := by decide +kernel
theorem dX7_level_12 : decode cX7_level 12 = .ok (.iload_n 1, 1) := by decide +kernel
theorem dX7_level_13 : decode cX7_level 13 = .ok (.iaload, 1) := by decide +kernel
theorem dX7_level_14 : decode cX7_level 14 = .ok (.ireturn, 1) := by decide +kernel
theorem dX7_marker_0 : decode cX7_marker 0 = .ok (.aload_n 0, 1) := by decide +kernel
theorem dX7_marker_1 : decode cX7_marker 1 = .ok (.iload_n 1, 1) := by decide +kernel
theorem dX7_marker_2 : decode cX7_marker 2 = .ok (.invokevirtual 87, 3) := by decide +kernel
theorem dX7_marker_5 : decode cX7_marker 5 = .ok (.aload_n 0, 1) := by decide +kernel
theorem dX7_marker_6 : decode cX7_marker 6 = .ok (.getfield 10, 3) := by decide +kernel
theorem dX7_marker_9 : decode cX7_marker 9 = .ok (.getfield 109, 3) := by decide +kernel
theorem dX7_marker_12 : decode cX7_marker 12 = .ok (.iload_n 1, 1) := by decide +kernel
theorem dX7_marker_13 : decode cX7_marker 13 = .ok (.iaload, 1) := by decide +kernel
theorem dX7_marker_14 : decode cX7_marker 14 = .ok (.ireturn, 1) := by decide +kernel
theorem dX7_difference_0 : decode cX7_difference 0 = .ok (.iconst 0, 1) := by decide +kernel
theorem dX7_difference_1 : decode cX7_difference 1 = .ok (.istore_n 1, 1) := by decide +kernel
theorem dX7_difference_2 : decode cX7_difference 2 = .ok (.iconst 0, 1) := by decide +kernel
theorem dX7_difference_3 : decode cX7_difference 3 = .ok (.istore_n 2, 1) := by decide +kernel
theorem dX7_difference_4 : decode cX7_difference 4 = .ok (.iload_n 2, 1) := by decide +kernel
theorem dX7_difference_5 : decode cX7_difference 5 = .ok (.aload_n 0, 1) := by decide +kernel
theorem dX7_difference_6 : decode cX7_difference 6 = .ok (.getfield 10, 3) := by decide +kernel
theorem dX7_difference_9 : decode cX7_difference 9 = .ok (.invokevirtual 75, 3) := by decide +kernel
theorem dX7_difference_12 : decode cX7_difference 12 = .ok (.if_icmp .ge 34, 3) := by decide +kernel
theorem dX7_difference_15 : decode cX7_difference 15 = .ok (.iload_n 1, 1) := by decide +kernel
theorem dX7_difference_16 : decode cX7_difference 16 = .ok (.aload_n 0, 1) := by decide +kernel
theorem dX7_difference_17 : decode cX7_difference 17 = .ok (.getfield 10, 3) := by decide +kernel
theorem dX7_difference_20 : decode cX7_difference 20 = .ok (.getfield 95, 3) := by decide +kernel
theorem dX7_difference_23 : decode cX7_difference 23 = .ok (.iload_n 2, 1) := by decide +kernel
theorem dX7_difference_24 : decode cX7_difference 24 = .ok (.iaload, 1) := by decide +kernel
theorem dX7_difference_25 : decode cX7_difference 25 = .ok (.aload_n 0, 1) := by decide +kernel
theorem dX7_difference_26 : decode cX7_difference 26 = .ok (.getfield 10, 3) := by decide +kernel
theorem dX7_difference_29 : decode cX7_difference 29 = .ok (.getfield 109, 3) := by decide +kernel
theorem dX7_difference_32 : decode cX7_difference 32 = .ok (.iload_n 2, 1) := by decide +kernel
theorem dX7_difference_33 : decode cX7_difference 33 = .ok (.iaload, 1) := by decide +kernel
theorem dX7_difference_34 : decode cX7_difference 34 = .ok (.isub, 1) := by decide +kernel
theorem dX7_difference_35 : decode cX7_difference 35 = .ok (.invokestatic 112, 3) := by decide +kernel
theorem dX7_difference_38 : decode cX7_difference 38 = .ok (.iadd, 1) := by decide +kernel
theorem dX7_difference_39 : decode cX7_difference 39 = .ok (.istore_n 1, 1) := by decide +kernel
theorem dX7_difference_40 : decode cX7_difference 40 = .ok (.iinc 2 1, 3) := by decide +kernel
theorem dX7_difference_43 : decode cX7_difference 43 = .ok (.goto (-39), 3) := by decide +kernel
theorem dX7_difference_46 : decode cX7_difference 46 = .ok (.iload_n 1, 1) := by decide +kernel
theorem dX7_difference_47 : decode cX7_difference 47 = .ok (.ireturn, 1) := by decide +kernel
theorem dX7_setDark_0 : decode cX7_setDark 0 = .ok (.aload_n 0, 1) := by decide +kernel
theorem dX7_setDark_1 : decode cX7_setDark 1 = .ok (.getfield 61, 3) := by decide +kernel
theorem dX7_setDark_4 : decode cX7_setDark 4 = .ok (.istore_n 2, 1) := by decide +kernel
theorem dX7_setDark_5 : decode cX7_setDark 5 = .ok (.aload_n 0, 1) := by decide +kernel
theorem dX7_setDark_6 : decode cX7_setDark 6 = .ok (.iload_n 1, 1) := by decide +kernel
theorem dX7_setDark_7 : decode cX7_setDark 7 = .ok (.putfield 61, 3) := by decide +kernel
theorem dX7_setDark_10 : decode cX7_setDark 10 = .ok (.aload_n 0, 1) := by decide +kernel
theorem dX7_setDark_11 : decode cX7_setDark 11 = .ok (.iconst 1, 1) := by decide +kernel
theorem dX7_setDark_12 : decode cX7_setDark 12 = .ok (.putfield 68, 3) := by decide +kernel
theorem dX7_setDark_15 : decode cX7_setDark 15 = .ok (.iload_n 2, 1) := by decide +kernel
theorem dX7_setDark_16 : decode cX7_setDark 16 = .ok (.ireturn, 1) := by decide +kernel
theorem dX7_setEight_0 : decode cX7_setEight 0 = .ok (.aload_n 0, 1) := by decide +kernel
theorem dX7_setEight_1 : decode cX7_setEight 1 = .ok (.getfield 65, 3) := by decide +kernel
theorem dX7_setEight_4 : decode cX7_setEight 4 = .ok (.istore_n 2, 1) := by decide +kernel
theorem dX7_setEight_5 : decode cX7_setEight 5 = .ok (.aload_n 0, 1) := by decide +kernel
theorem dX7_setEight_6 : decode cX7_setEight 6 = .ok (.iload_n 1, 1) := by decide +kernel
theorem dX7_setEight_7 : decode cX7_setEight 7 = .ok (.putfield 65, 3) := by decide +kernel
theorem dX7_setEight_10 : decode cX7_setEight 10 = .ok (.aload_n 0, 1) := by decide +kernel
theorem dX7_setEight_11 : decode cX7_setEight 11 = .ok (.iconst 1, 1) := by decide +kernel
theorem dX7_setEight_12 : decode cX7_setEight 12 = .ok (.putfield 68, 3) := by decide +kernel
theorem dX7_setEight_15 : decode cX7_setEight 15 = .ok (.iload_n 2, 1) := by decide +kernel
theorem dX7_setEight_16 : decode cX7_setEight 16 = .ok (.ireturn, 1) := by decide +kernel
theorem dX7_undo_0 : decode cX7_undo 0 = .ok (.aload_n 0, 1) := by decide +kernel
theorem dX7_undo_1 : decode cX7_undo 1 = .ok (.getfield 22, 3) := by decide +kernel
theorem dX7_undo_4 : decode cX7_undo 4 = .ok (.getfield 118, 3) := by decide +kernel
theorem dX7_undo_7 : decode cX7_undo 7 = .ok (.ifCond .le 7, 3) := by decide +kernel
theorem dX7_undo_10 : decode cX7_undo 10 = .ok (.iconst 1, 1) := by decide +kernel
theorem dX7_undo_11 : decode cX7_undo 11 = .ok (.goto 4, 3) := by decide +kernel
theorem dX7_undo_14 : decode cX7_undo 14 = .ok (.iconst 0, 1) := by decide +kernel
theorem dX7_undo_15 : decode cX7_undo 15 = .ok (.invokestatic 120, 3) := by decide +kernel
theorem dX7_undo_18 : decode cX7_undo 18 = .ok (.aload_n 0, 1) := by decide +kernel
theorem dX7_undo_19 : decode cX7_undo 19 = .ok (.getfield 22, 3) := by decide +kernel
theorem dX7_undo_22 : decode cX7_undo 22 = .ok (.aload_n 0, 1) := by decide +kernel
theorem dX7_undo_23 : decode cX7_undo 23 = .ok (.getfield 10, 3) := by decide +kernel
theorem dX7_undo_26 : decode cX7_undo 26 = .ok (.invokevirtual 123, 3) := by decide +kernel
theorem dX7_undo_29 : decode cX7_undo 29 = .ok (.aload_n 0, 1) := by decide +kernel
theorem dX7_undo_30 : decode cX7_undo 30 = .ok (.iconst 1, 1) := by decide +kernel
theorem dX7_undo_31 : decode cX7_undo 31 = .ok (.putfield 68, 3) := by decide +kernel
theorem dX7_undo_34 : decode cX7_undo 34 = .ok (.aload_n 0, 1) := by decide +kernel
theorem dX7_undo_35 : decode cX7_undo 35 = .ok (.getfield 22, 3) := by decide +kernel
theorem dX7_undo_38 : decode cX7_undo 38 = .ok (.getfield 118, 3) := by decide +kernel
theorem dX7_undo_41 : decode cX7_undo 41 = .ok (.ireturn, 1) := by decide +kernel
theorem dX7_append_0 : decode cX7_append 0 = .ok (.iload_n 1, 1) := by decide +kernel
theorem dX7_append_1 : decode cX7_append 1 = .ok (.bipush 32, 2) := by decide +kernel
theorem dX7_append_3 : decode cX7_append 3 = .ok (.if_icmp .lt 13, 3) := by decide +kernel
theorem dX7_append_6 : decode cX7_append 6 = .ok (.iload_n 1, 1) := by decide +kernel
theorem dX7_append_7 : decode cX7_append 7 = .ok (.bipush 126, 2) := by decide +kernel
theorem dX7_append_9 : decode cX7_append 9 = .ok (.if_icmp .gt 7, 3) := by decide +kernel
theorem dX7_append_12 : decode cX7_append 12 = .ok (.iconst 1, 1) := by decide +kernel
theorem dX7_append_13 : decode cX7_append 13 = .ok (.goto 4, 3) := by decide +kernel
theorem dX7_append_16 : decode cX7_append 16 = .ok (.iconst 0, 1) := by decide +kernel
theorem dX7_append_17 : decode cX7_append 17 = .ok (.invokestatic 71, 3) := by decide +kernel
theorem dX7_append_20 : decode cX7_append 20 = .ok (.aload_n 0, 1) := by decide +kernel
theorem dX7_append_21 : decode cX7_append 21 = .ok (.getfield 29, 3) := by decide +kernel
theorem dX7_append_24 : decode cX7_append 24 = .ok (.getfield 126, 3) := by decide +kernel
theorem dX7_append_27 : decode cX7_append 27 = .ok (.bipush 72, 2) := by decide +kernel
theorem dX7_append_29 : decode cX7_append 29 = .ok (.if_icmp .ge 7, 3) := by decide +kernel
theorem dX7_append_32 : decode cX7_append 32 = .ok (.iconst 1, 1) := by decide +kernel
theorem dX7_append_33 : decode cX7_append 33 = .ok (.goto 4, 3) := by decide +kernel
theorem dX7_append_36 : decode cX7_append 36 = .ok (.iconst 0, 1) := by decide +kernel
theorem dX7_append_37 : decode cX7_append 37 = .ok (.invokestatic 120, 3) := by decide +kernel
theorem dX7_append_40 : decode cX7_append 40 = .ok (.aload_n 0, 1) := by decide +kernel
theorem dX7_append_41 : decode cX7_append 41 = .ok (.getfield 29, 3) := by decide +kernel
theorem dX7_append_44 : decode cX7_append 44 = .ok (.iload_n 1, 1) := by decide +kernel
theorem dX7_append_45 : decode cX7_append 45 = .ok (.invokevirtual 129, 3) := by decide +kernel
theorem dX7_append_48 : decode cX7_append 48 = .ok (.aload_n 0, 1) := by decide +kernel
theorem dX7_append_49 : decode cX7_append 49 = .ok (.getfield 29, 3) := by decide +kernel
theorem dX7_append_52 : decode cX7_append 52 = .ok (.getfield 126, 3) := by decide +kernel
theorem dX7_append_55 : decode cX7_append 55 = .ok (.ireturn, 1) := by decide +kernel
theorem dX7_clearInput_0 : decode cX7_clearInput 0 = .ok (.aload_n 0, 1) := by decide +kernel
theorem dX7_clearInput_1 : decode cX7_clearInput 1 = .ok (.getfield 29, 3) := by decide +kernel
theorem dX7_clearInput_4 : decode cX7_clearInput 4 = .ok (.getfield 126, 3) := by decide +kernel
theorem dX7_clearInput_7 : decode cX7_clearInput 7 = .ok (.istore_n 1, 1) := by decide +kernel
theorem dX7_clearInput_8 : decode cX7_clearInput 8 = .ok (.aload_n 0, 1) := by decide +kernel
theorem dX7_clearInput_9 : decode cX7_clearInput 9 = .ok (.getfield 29, 3) := by decide +kernel
theorem dX7_clearInput_12 : decode cX7_clearInput 12 = .ok (.iconst 0, 1) := by decide +kernel
theorem dX7_clearInput_13 : decode cX7_clearInput 13 = .ok (.putfield 126, 3) := by decide +kernel
theorem dX7_clearInput_16 : decode cX7_clearInput 16 = .ok (.iload_n 1, 1) := by decide +kernel
theorem dX7_clearInput_17 : decode cX7_clearInput 17 = .ok (.ireturn, 1) := by decide +kernel
theorem dX7_firstError_0 : decode cX7_firstError 0 = .ok (.aload_n 0, 1) := by decide +kernel
theorem dX7_firstError_1 : decode cX7_firstError 1 = .ok (.getfield 29, 3) := by decide +kernel
theorem dX7_firstError_4 : decode cX7_firstError 4 = .ok (.invokevirtual 132, 3) := by decide +kernel
theorem dX7_firstError_7 : decode cX7_firstError 7 = .ok (.ireturn, 1) := by decide +kernel
theorem dX7_load_0 : decode cX7_load 0 = .ok (.aload_n 0, 1) := by decide +kernel
theorem dX7_load_1 : decode cX7_load 1 = .ok (.getfield 29, 3) := by decide +kernel
theorem dX7_load_4 : decode cX7_load 4 = .ok (.invokevirtual 135, 3) := by decide +kernel
theorem dX7_load_7 : decode cX7_load 7 = .ok (.invokestatic 120, 3) := by decide +kernel
theorem dX7_load_10 : decode cX7_load 10 = .ok (.aload_n 0, 1) := by decide +kernel
theorem dX7_load_11 : decode cX7_load 11 = .ok (.getfield 22, 3) := by decide +kernel
theorem dX7_load_14 : decode cX7_load 14 = .ok (.aload_n 0, 1) := by decide +kernel
theorem dX7_load_15 : decode cX7_load 15 = .ok (.getfield 10, 3) := by decide +kernel
theorem dX7_load_18 : decode cX7_load 18 = .ok (.invokevirtual 79, 3) := by decide +kernel
theorem dX7_load_21 : decode cX7_load 21 = .ok (.aload_n 0, 1) := by decide +kernel
theorem dX7_load_22 : decode cX7_load 22 = .ok (.getfield 29, 3) := by decide +kernel
theorem dX7_load_25 : decode cX7_load 25 = .ok (.aload_n 0, 1) := by decide +kernel
theorem dX7_load_26 : decode cX7_load 26 = .ok (.getfield 10, 3) := by decide +kernel
theorem dX7_load_29 : decode cX7_load 29 = .ok (.invokevirtual 139, 3) := by decide +kernel
theorem dX7_load_32 : decode cX7_load 32 = .ok (.aload_n 0, 1) := by decide +kernel
theorem dX7_load_33 : decode cX7_load 33 = .ok (.getfield 29, 3) := by decide +kernel
theorem dX7_load_36 : decode cX7_load 36 = .ok (.iconst 0, 1) := by decide +kernel
theorem dX7_load_37 : decode cX7_load 37 = .ok (.putfield 126, 3) := by decide +kernel
theorem dX7_load_40 : decode cX7_load 40 = .ok (.aload_n 0, 1) := by decide +kernel
theorem dX7_load_41 : decode cX7_load 41 = .ok (.iconst 1, 1) := by decide +kernel
theorem dX7_load_42 : decode cX7_load 42 = .ok (.putfield 68, 3) := by decide +kernel
theorem dX7_load_45 : decode cX7_load 45 = .ok (.aload_n 0, 1) := by decide +kernel
theorem dX7_load_46 : decode cX7_load 46 = .ok (.getfield 10, 3) := by decide +kernel
theorem dX7_load_49 : decode cX7_load 49 = .ok (.invokevirtual 75, 3) := by decide +kernel
theorem dX7_load_52 : decode cX7_load 52 = .ok (.ireturn, 1) := by decide +kernel
theorem dX7_count_0 : decode cX7_count 0 = .ok (.iload_n 1, 1) := by decide +kernel
theorem dX7_count_1 : decode cX7_count 1 = .ok (.ifCond .lt 13, 3) := by decide +kernel
theorem dX7_count_4 : decode cX7_count 4 = .ok (.iload_n 1, 1) := by decide +kernel
theorem dX7_count_5 : decode cX7_count 5 = .ok (.bipush 8, 2) := by decide +kernel
theorem dX7_count_7 : decode cX7_count 7 = .ok (.if_icmp .ge 7, 3) := by decide +kernel
theorem dX7_count_10 : decode cX7_count 10 = .ok (.iconst 1, 1) := by decide +kernel
theorem dX7_count_11 : decode cX7_count 11 = .ok (.goto 4, 3) := by decide +kernel
theorem dX7_count_14 : decode cX7_count 14 = .ok (.iconst 0, 1) := by decide +kernel
theorem dX7_count_15 : decode cX7_count 15 = .ok (.invokestatic 71, 3) := by decide +kernel
theorem dX7_count_18 : decode cX7_count 18 = .ok (.aload_n 0, 1) := by decide +kernel
theorem dX7_count_19 : decode cX7_count 19 = .ok (.invokevirtual 102, 3) := by decide +kernel
theorem dX7_count_22 : decode cX7_count 22 = .ok (.aload_n 0, 1) := by decide +kernel
theorem dX7_count_23 : decode cX7_count 23 = .ok (.iload_n 1, 1) := by decide +kernel
theorem dX7_count_24 : decode cX7_count 24 = .ok (.invokevirtual 142, 3) := by decide +kernel
theorem dX7_count_27 : decode cX7_count 27 = .ok (.ireturn, 1) := by decide +kernel
theorem dX7_nodeOf_0 : decode cX7_nodeOf 0 = .ok (.aload_n 0, 1) := by decide +kernel
theorem dX7_nodeOf_1 : decode cX7_nodeOf 1 = .ok (.iload_n 1, 1) := by decide +kernel
theorem dX7_nodeOf_2 : decode cX7_nodeOf 2 = .ok (.invokevirtual 87, 3) := by decide +kernel
theorem dX7_nodeOf_5 : decode cX7_nodeOf 5 = .ok (.aload_n 0, 1) := by decide +kernel
theorem dX7_nodeOf_6 : decode cX7_nodeOf 6 = .ok (.invokevirtual 102, 3) := by decide +kernel
theorem dX7_nodeOf_9 : decode cX7_nodeOf 9 = .ok (.aload_n 0, 1) := by decide +kernel
theorem dX7_nodeOf_10 : decode cX7_nodeOf 10 = .ok (.getfield 36, 3) := by decide +kernel
theorem dX7_nodeOf_13 : decode cX7_nodeOf 13 = .ok (.getfield 145, 3) := by decide +kernel
theorem dX7_nodeOf_16 : decode cX7_nodeOf 16 = .ok (.iload_n 1, 1) := by decide +kernel
theorem dX7_nodeOf_17 : decode cX7_nodeOf 17 = .ok (.iaload, 1) := by decide +kernel
theorem dX7_nodeOf_18 : decode cX7_nodeOf 18 = .ok (.ireturn, 1) := by decide +kernel
theorem dX7_attribute_0 : decode cX7_attribute 0 = .ok (.aload_n 0, 1) := by decide +kernel
theorem dX7_attribute_1 : decode cX7_attribute 1 = .ok (.invokevirtual 102, 3) := by decide +kernel
theorem dX7_attribute_4 : decode cX7_attribute 4 = .ok (.aload_n 0, 1) := by decide +kernel
theorem dX7_attribute_5 : decode cX7_attribute 5 = .ok (.iload_n 1, 1) := by decide +kernel
theorem dX7_attribute_6 : decode cX7_attribute 6 = .ok (.invokevirtual 148, 3) := by decide +kernel
theorem dX7_attribute_9 : decode cX7_attribute 9 = .ok (.iload_n 2, 1) := by decide +kernel
theorem dX7_attribute_10 : decode cX7_attribute 10 = .ok (.ifCond .lt 13, 3) := by decide +kernel
theorem dX7_attribute_13 : decode cX7_attribute 13 = .ok (.iload_n 2, 1) := by decide +kernel
theorem dX7_attribute_14 : decode cX7_attribute 14 = .ok (.bipush 12, 2) := by decide +kernel
theorem dX7_attribute_16 : decode cX7_attribute 16 = .ok (.if_icmp .ge 7, 3) := by decide +kernel
theorem dX7_attribute_19 : decode cX7_attribute 19 = .ok (.iconst 1, 1) := by decide +kernel
theorem dX7_attribute_20 : decode cX7_attribute 20 = .ok (.goto 4, 3) := by decide +kernel
theorem dX7_attribute_23 : decode cX7_attribute 23 = .ok (.iconst 0, 1) := by decide +kernel
theorem dX7_attribute_24 : decode cX7_attribute 24 = .ok (.invokestatic 71, 3) := by decide +kernel
theorem dX7_attribute_27 : decode cX7_attribute 27 = .ok (.aload_n 0, 1) := by decide +kernel
theorem dX7_attribute_28 : decode cX7_attribute 28 = .ok (.getfield 46, 3) := by decide +kernel
theorem dX7_attribute_31 : decode cX7_attribute 31 = .ok (.getfield 151, 3) := by decide +kernel
theorem dX7_attribute_34 : decode cX7_attribute 34 = .ok (.iload_n 2, 1) := by decide +kernel
theorem dX7_attribute_35 : decode cX7_attribute 35 = .ok (.aaload, 1) := by decide +kernel
theorem dX7_attribute_36 : decode cX7_attribute 36 = .ok (.iload_n 1, 1) := by decide +kernel
theorem dX7_attribute_37 : decode cX7_attribute 37 = .ok (.iaload, 1) := by decide +kernel
theorem dX7_attribute_38 : decode cX7_attribute 38 = .ok (.ireturn, 1) := by decide +kernel
theorem dX7_meanRank_0 : decode cX7_meanRank 0 = .ok (.aload_n 0, 1) := by decide +kernel
theorem dX7_meanRank_1 : decode cX7_meanRank 1 = .ok (.invokevirtual 102, 3) := by decide +kernel
theorem dX7_meanRank_4 : decode cX7_meanRank 4 = .ok (.aload_n 0, 1) := by decide +kernel
theorem dX7_meanRank_5 : decode cX7_meanRank 5 = .ok (.iload_n 1, 1) := by decide +kernel
theorem dX7_meanRank_6 : decode cX7_meanRank 6 = .ok (.invokevirtual 148, 3) := by decide +kernel
theorem dX7_meanRank_9 : decode cX7_meanRank 9 = .ok (.aload_n 0, 1) := by decide +kernel
theorem dX7_meanRank_10 : decode cX7_meanRank 10 = .ok (.getfield 46, 3) := by decide +kernel
theorem dX7_meanRank_13 : decode cX7_meanRank 13 = .ok (.getfield 151, 3) := by decide +kernel
theorem dX7_meanRank_16 : decode cX7_meanRank 16 = .ok (.iconst 1, 1) := by decide +kernel
theorem dX7_meanRank_17 : decode cX7_meanRank 17 = .ok (.aaload, 1) := by decide +kernel
theorem dX7_meanRank_18 : decode cX7_meanRank 18 = .ok (.iload_n 1, 1) := by decide +kernel
theorem dX7_meanRank_19 : decode cX7_meanRank 19 = .ok (.iaload, 1) := by decide +kernel
theorem dX7_meanRank_20 : decode cX7_meanRank 20 = .ok (.istore_n 2, 1) := by decide +kernel
theorem dX7_meanRank_21 : decode cX7_meanRank 21 = .ok (.aload_n 0, 1) := by decide +kernel
theorem dX7_meanRank_22 : decode cX7_meanRank 22 = .ok (.getfield 46, 3) := by decide +kernel
theorem dX7_meanRank_25 : decode cX7_meanRank 25 = .ok (.getfield 151, 3) := by decide +kernel
theorem dX7_meanRank_28 : decode cX7_meanRank 28 = .ok (.bipush 6, 2) := by decide +kernel
theorem dX7_meanRank_30 : decode cX7_meanRank 30 = .ok (.aaload, 1) := by decide +kernel
theorem dX7_meanRank_31 : decode cX7_meanRank 31 = .ok (.iload_n 1, 1) := by decide +kernel
theorem dX7_meanRank_32 : decode cX7_meanRank 32 = .ok (.iaload, 1) := by decide +kernel
theorem dX7_meanRank_33 : decode cX7_meanRank 33 = .ok (.aload_n 0, 1) := by decide +kernel
theorem dX7_meanRank_34 : decode cX7_meanRank 34 = .ok (.getfield 36, 3) := by decide +kernel
theorem dX7_meanRank_37 : decode cX7_meanRank 37 = .ok (.getfield 155, 3) := by decide +kernel
theorem dX7_meanRank_40 : decode cX7_meanRank 40 = .ok (.iload_n 1, 1) := by decide +kernel
theorem dX7_meanRank_41 : decode cX7_meanRank 41 = .ok (.iaload, 1) := by decide +kernel
theorem dX7_meanRank_42 : decode cX7_meanRank 42 = .ok (.iload_n 2, 1) := by decide +kernel
theorem dX7_meanRank_43 : decode cX7_meanRank 43 = .ok (.imul, 1) := by decide +kernel
theorem dX7_meanRank_44 : decode cX7_meanRank 44 = .ok (.iadd, 1) := by decide +kernel
theorem dX7_meanRank_45 : decode cX7_meanRank 45 = .ok (.istore_n 3, 1) := by decide +kernel
theorem dX7_meanRank_46 : decode cX7_meanRank 46 = .ok (.iload_n 2, 1) := by decide +kernel
theorem dX7_meanRank_47 : decode cX7_meanRank 47 = .ok (.iconst 1, 1) := by decide +kernel
theorem dX7_meanRank_48 : decode cX7_meanRank 48 = .ok (.if_icmp .ge 7, 3) := by decide +kernel
theorem dX7_meanRank_51 : decode cX7_meanRank 51 = .ok (.dconst 0, 1) := by decide +kernel
theorem dX7_meanRank_52 : decode cX7_meanRank 52 = .ok (.goto 8, 3) := by decide +kernel
theorem dX7_meanRank_55 : decode cX7_meanRank 55 = .ok (.iload_n 3, 1) := by decide +kernel
theorem dX7_meanRank_56 : decode cX7_meanRank 56 = .ok (.i2d, 1) := by decide +kernel
theorem dX7_meanRank_57 : decode cX7_meanRank 57 = .ok (.iload_n 2, 1) := by decide +kernel
theorem dX7_meanRank_58 : decode cX7_meanRank 58 = .ok (.i2d, 1) := by decide +kernel
theorem dX7_meanRank_59 : decode cX7_meanRank 59 = .ok (.ddiv, 1) := by decide +kernel
theorem dX7_meanRank_60 : decode cX7_meanRank 60 = .ok (.dreturn, 1) := by decide +kernel
theorem dX7_contains_0 : decode cX7_contains 0 = .ok (.aload_n 0, 1) := by decide +kernel
theorem dX7_contains_1 : decode cX7_contains 1 = .ok (.invokevirtual 102, 3) := by decide +kernel
theorem dX7_contains_4 : decode cX7_contains 4 = .ok (.aload_n 0, 1) := by decide +kernel
theorem dX7_contains_5 : decode cX7_contains 5 = .ok (.iload_n 1, 1) := by decide +kernel
theorem dX7_contains_6 : decode cX7_contains 6 = .ok (.invokevirtual 148, 3) := by decide +kernel
theorem dX7_contains_9 : decode cX7_contains 9 = .ok (.aload_n 0, 1) := by decide +kernel
theorem dX7_contains_10 : decode cX7_contains 10 = .ok (.iload_n 2, 1) := by decide +kernel
theorem dX7_contains_11 : decode cX7_contains 11 = .ok (.invokevirtual 87, 3) := by decide +kernel
theorem dX7_contains_14 : decode cX7_contains 14 = .ok (.aload_n 0, 1) := by decide +kernel
theorem dX7_contains_15 : decode cX7_contains 15 = .ok (.getfield 36, 3) := by decide +kernel
theorem dX7_contains_18 : decode cX7_contains 18 = .ok (.iload_n 1, 1) := by decide +kernel
theorem dX7_contains_19 : decode cX7_contains 19 = .ok (.iload_n 2, 1) := by decide +kernel
theorem dX7_contains_20 : decode cX7_contains 20 = .ok (.invokevirtual 158, 3) := by decide +kernel
theorem dX7_contains_23 : decode cX7_contains 23 = .ok (.ireturn, 1) := by decide +kernel
theorem dX7_child_0 : decode cX7_child 0 = .ok (.aload_n 0, 1) := by decide +kernel
theorem dX7_child_1 : decode cX7_child 1 = .ok (.invokevirtual 102, 3) := by decide +kernel
theorem dX7_child_4 : decode cX7_child 4 = .ok (.aload_n 0, 1) := by decide +kernel
theorem dX7_child_5 : decode cX7_child 5 = .ok (.iload_n 1, 1) := by decide +kernel
theorem dX7_child_6 : decode cX7_child 6 = .ok (.invokevirtual 148, 3) := by decide +kernel
theorem dX7_child_9 : decode cX7_child 9 = .ok (.iload_n 2, 1) := by decide +kernel
theorem dX7_child_10 : decode cX7_child 10 = .ok (.aload_n 0, 1) := by decide +kernel
theorem dX7_child_11 : decode cX7_child 11 = .ok (.getfield 36, 3) := by decide +kernel
theorem dX7_child_14 : decode cX7_child 14 = .ok (.getfield 162, 3) := by decide +kernel
theorem dX7_child_17 : decode cX7_child 17 = .ok (.iload_n 1, 1) := by decide +kernel
theorem dX7_child_18 : decode cX7_child 18 = .ok (.iaload, 1) := by decide +kernel
theorem dX7_child_19 : decode cX7_child 19 = .ok (.invokestatic 165, 3) := by decide +kernel
theorem dX7_child_22 : decode cX7_child 22 = .ok (.aload_n 0, 1) := by decide +kernel
theorem dX7_child_23 : decode cX7_child 23 = .ok (.getfield 36, 3) := by decide +kernel
theorem dX7_child_26 : decode cX7_child 26 = .ok (.iload_n 1, 1) := by decide +kernel
theorem dX7_child_27 : decode cX7_child 27 = .ok (.iload_n 2, 1) := by decide +kernel
theorem dX7_child_28 : decode cX7_child 28 = .ok (.invokevirtual 168, 3) := by decide +kernel
theorem dX7_child_31 : decode cX7_child 31 = .ok (.ireturn, 1) := by decide +kernel
theorem dX7_leaf_0 : decode cX7_leaf 0 = .ok (.aload_n 0, 1) := by decide +kernel
theorem dX7_leaf_1 : decode cX7_leaf 1 = .ok (.invokevirtual 102, 3) := by decide +kernel
theorem dX7_leaf_4 : decode cX7_leaf 4 = .ok (.iload_n 1, 1) := by decide +kernel
theorem dX7_leaf_5 : decode cX7_leaf 5 = .ok (.aload_n 0, 1) := by decide +kernel
theorem dX7_leaf_6 : decode cX7_leaf 6 = .ok (.getfield 36, 3) := by decide +kernel
theorem dX7_leaf_9 : decode cX7_leaf 9 = .ok (.getfield 172, 3) := by decide +kernel
theorem dX7_leaf_12 : decode cX7_leaf 12 = .ok (.invokestatic 165, 3) := by decide +kernel
theorem dX7_leaf_15 : decode cX7_leaf 15 = .ok (.aload_n 0, 1) := by decide +kernel
theorem dX7_leaf_16 : decode cX7_leaf 16 = .ok (.getfield 46, 3) := by decide +kernel
theorem dX7_leaf_19 : decode cX7_leaf 19 = .ok (.getfield 175, 3) := by decide +kernel
theorem dX7_leaf_22 : decode cX7_leaf 22 = .ok (.iload_n 1, 1) := by decide +kernel
theorem dX7_leaf_23 : decode cX7_leaf 23 = .ok (.iaload, 1) := by decide +kernel
theorem dX7_leaf_24 : decode cX7_leaf 24 = .ok (.ireturn, 1) := by decide +kernel
theorem dX7_prominence_0 : decode cX7_prominence 0 = .ok (.aload_n 0, 1) := by decide +kernel
theorem dX7_prominence_1 : decode cX7_prominence 1 = .ok (.invokevirtual 102, 3) := by decide +kernel
theorem dX7_prominence_4 : decode cX7_prominence 4 = .ok (.aload_n 0, 1) := by decide +kernel
theorem dX7_prominence_5 : decode cX7_prominence 5 = .ok (.iload_n 1, 1) := by decide +kernel
theorem dX7_prominence_6 : decode cX7_prominence 6 = .ok (.invokevirtual 148, 3) := by decide +kernel
theorem dX7_prominence_9 : decode cX7_prominence 9 = .ok (.aload_n 0, 1) := by decide +kernel
theorem dX7_prominence_10 : decode cX7_prominence 10 = .ok (.getfield 36, 3) := by decide +kernel
theorem dX7_prominence_13 : decode cX7_prominence 13 = .ok (.getfield 162, 3) := by decide +kernel
theorem dX7_prominence_16 : decode cX7_prominence 16 = .ok (.iload_n 1, 1) := by decide +kernel
theorem dX7_prominence_17 : decode cX7_prominence 17 = .ok (.iaload, 1) := by decide +kernel
theorem dX7_prominence_18 : decode cX7_prominence 18 = .ok (.ifCond .ne 7, 3) := by decide +kernel
theorem dX7_prominence_21 : decode cX7_prominence 21 = .ok (.iconst 1, 1) := by decide +kernel
theorem dX7_prominence_22 : decode cX7_prominence 22 = .ok (.goto 4, 3) := by decide +kernel
theorem dX7_prominence_25 : decode cX7_prominence 25 = .ok (.iconst 0, 1) := by decide +kernel
theorem dX7_prominence_26 : decode cX7_prominence 26 = .ok (.invokestatic 120, 3) := by decide +kernel
theorem dX7_prominence_29 : decode cX7_prominence 29 = .ok (.aload_n 0, 1) := by decide +kernel
theorem dX7_prominence_30 : decode cX7_prominence 30 = .ok (.getfield 46, 3) := by decide +kernel
theorem dX7_prominence_33 : decode cX7_prominence 33 = .ok (.getfield 151, 3) := by decide +kernel
theorem dX7_prominence_36 : decode cX7_prominence 36 = .ok (.bipush 11, 2) := by decide +kernel
theorem dX7_prominence_38 : decode cX7_prominence 38 = .ok (.aaload, 1) := by decide +kernel
theorem dX7_prominence_39 : decode cX7_prominence 39 = .ok (.iload_n 1, 1) := by decide +kernel
theorem dX7_prominence_40 : decode cX7_prominence 40 = .ok (.iaload, 1) := by decide +kernel
theorem dX7_prominence_41 : decode cX7_prominence 41 = .ok (.ireturn, 1) := by decide +kernel
theorem dX7_component_0 : decode cX7_component 0 = .ok (.aload_n 0, 1) := by decide +kernel
theorem dX7_component_1 : decode cX7_component 1 = .ok (.iload_n 1, 1) := by decide +kernel
theorem dX7_component_2 : decode cX7_component 2 = .ok (.invokevirtual 87, 3) := by decide +kernel
theorem dX7_component_5 : decode cX7_component 5 = .ok (.iload_n 2, 1) := by decide +kernel
theorem dX7_component_6 : decode cX7_component 6 = .ok (.invokestatic 91, 3) := by decide +kernel
theorem dX7_component_9 : decode cX7_component 9 = .ok (.invokestatic 71, 3) := by decide +kernel
theorem dX7_component_12 : decode cX7_component 12 = .ok (.aload_n 0, 1) := by decide +kernel
theorem dX7_component_13 : decode cX7_component 13 = .ok (.invokevirtual 102, 3) := by decide +kernel
theorem dX7_component_16 : decode cX7_component 16 = .ok (.aload_n 0, 1) := by decide +kernel
theorem dX7_component_17 : decode cX7_component 17 = .ok (.getfield 36, 3) := by decide +kernel
theorem dX7_component_20 : decode cX7_component 20 = .ok (.iload_n 1, 1) := by decide +kernel
theorem dX7_component_21 : decode cX7_component 21 = .ok (.iload_n 2, 1) := by decide +kernel
theorem dX7_component_22 : decode cX7_component 22 = .ok (.invokevirtual 177, 3) := by decide +kernel
theorem dX7_component_25 : decode cX7_component 25 = .ok (.ireturn, 1) := by decide +kernel
theorem dX7_meet_0 : decode cX7_meet 0 = .ok (.aload_n 0, 1) := by decide +kernel
theorem dX7_meet_1 : decode cX7_meet 1 = .ok (.iload_n 1, 1) := by decide +kernel
theorem dX7_meet_2 : decode cX7_meet 2 = .ok (.invokevirtual 87, 3) := by decide +kernel
theorem dX7_meet_5 : decode cX7_meet 5 = .ok (.aload_n 0, 1) := by decide +kernel
theorem dX7_meet_6 : decode cX7_meet 6 = .ok (.iload_n 2, 1) := by decide +kernel
theorem dX7_meet_7 : decode cX7_meet 7 = .ok (.invokevirtual 87, 3) := by decide +kernel
theorem dX7_meet_10 : decode cX7_meet 10 = .ok (.aload_n 0, 1) := by decide +kernel
theorem dX7_meet_11 : decode cX7_meet 11 = .ok (.invokevirtual 102, 3) := by decide +kernel
theorem dX7_meet_14 : decode cX7_meet 14 = .ok (.aload_n 0, 1) := by decide +kernel
theorem dX7_meet_15 : decode cX7_meet 15 = .ok (.getfield 36, 3) := by decide +kernel
theorem dX7_meet_18 : decode cX7_meet 18 = .ok (.iload_n 1, 1) := by decide +kernel
theorem dX7_meet_19 : decode cX7_meet 19 = .ok (.iload_n 2, 1) := by decide +kernel
theorem dX7_meet_20 : decode cX7_meet 20 = .ok (.invokevirtual 180, 3) := by decide +kernel
theorem dX7_meet_23 : decode cX7_meet 23 = .ok (.ireturn, 1) := by decide +kernel
theorem dX7_distance_0 : decode cX7_distance 0 = .ok (.aload_n 0, 1) := by decide +kernel
theorem dX7_distance_1 : decode cX7_distance 1 = .ok (.invokevirtual 102, 3) := by decide +kernel
theorem dX7_distance_4 : decode cX7_distance 4 = .ok (.aload_n 0, 1) := by decide +kernel
theorem dX7_distance_5 : decode cX7_distance 5 = .ok (.iload_n 1, 1) := by decide +kernel
theorem dX7_distance_6 : decode cX7_distance 6 = .ok (.invokevirtual 148, 3) := by decide +kernel
theorem dX7_distance_9 : decode cX7_distance 9 = .ok (.aload_n 0, 1) := by decide +kernel
theorem dX7_distance_10 : decode cX7_distance 10 = .ok (.iload_n 2, 1) := by decide +kernel
theorem dX7_distance_11 : decode cX7_distance 11 = .ok (.invokevirtual 148, 3) := by decide +kernel
theorem dX7_distance_14 : decode cX7_distance 14 = .ok (.aload_n 0, 1) := by decide +kernel
theorem dX7_distance_15 : decode cX7_distance 15 = .ok (.getfield 36, 3) := by decide +kernel
theorem dX7_distance_18 : decode cX7_distance 18 = .ok (.iload_n 1, 1) := by decide +kernel
theorem dX7_distance_19 : decode cX7_distance 19 = .ok (.iload_n 2, 1) := by decide +kernel
theorem dX7_distance_20 : decode cX7_distance 20 = .ok (.invokevirtual 183, 3) := by decide +kernel
theorem dX7_distance_23 : decode cX7_distance 23 = .ok (.ireturn, 1) := by decide +kernel
theorem dX7_verdict_0 : decode cX7_verdict 0 = .ok (.aload_n 0, 1) := by decide +kernel
theorem dX7_verdict_1 : decode cX7_verdict 1 = .ok (.invokevirtual 102, 3) := by decide +kernel
theorem dX7_verdict_4 : decode cX7_verdict 4 = .ok (.aload_n 0, 1) := by decide +kernel
theorem dX7_verdict_5 : decode cX7_verdict 5 = .ok (.iload_n 1, 1) := by decide +kernel
theorem dX7_verdict_6 : decode cX7_verdict 6 = .ok (.invokevirtual 148, 3) := by decide +kernel
theorem dX7_verdict_9 : decode cX7_verdict 9 = .ok (.iload_n 2, 1) := by decide +kernel
theorem dX7_verdict_10 : decode cX7_verdict 10 = .ok (.iload_n 3, 1) := by decide +kernel
theorem dX7_verdict_11 : decode cX7_verdict 11 = .ok (.iload 4, 2) := by decide +kernel
theorem dX7_verdict_13 : decode cX7_verdict 13 = .ok (.invokestatic 186, 3) := by decide +kernel
theorem dX7_verdict_16 : decode cX7_verdict 16 = .ok (.aload_n 0, 1) := by decide +kernel
theorem dX7_verdict_17 : decode cX7_verdict 17 = .ok (.getfield 53, 3) := by decide +kernel
theorem dX7_verdict_20 : decode cX7_verdict 20 = .ok (.aload_n 0, 1) := by decide +kernel
theorem dX7_verdict_21 : decode cX7_verdict 21 = .ok (.getfield 36, 3) := by decide +kernel
theorem dX7_verdict_24 : decode cX7_verdict 24 = .ok (.aload_n 0, 1) := by decide +kernel
theorem dX7_verdict_25 : decode cX7_verdict 25 = .ok (.getfield 46, 3) := by decide +kernel
theorem dX7_verdict_28 : decode cX7_verdict 28 = .ok (.getfield 151, 3) := by decide +kernel
theorem dX7_verdict_31 : decode cX7_verdict 31 = .ok (.iload_n 2, 1) := by decide +kernel
theorem dX7_verdict_32 : decode cX7_verdict 32 = .ok (.aaload, 1) := by decide +kernel
theorem dX7_verdict_33 : decode cX7_verdict 33 = .ok (.iload_n 3, 1) := by decide +kernel
theorem dX7_verdict_34 : decode cX7_verdict 34 = .ok (.iload 4, 2) := by decide +kernel
theorem dX7_verdict_36 : decode cX7_verdict 36 = .ok (.invokevirtual 190, 3) := by decide +kernel
theorem dX7_verdict_39 : decode cX7_verdict 39 = .ok (.aload_n 0, 1) := by decide +kernel
theorem dX7_verdict_40 : decode cX7_verdict 40 = .ok (.getfield 46, 3) := by decide +kernel
theorem dX7_verdict_43 : decode cX7_verdict 43 = .ok (.getfield 151, 3) := by decide +kernel
theorem dX7_verdict_46 : decode cX7_verdict 46 = .ok (.iload_n 2, 1) := by decide +kernel
theorem dX7_verdict_47 : decode cX7_verdict 47 = .ok (.aaload, 1) := by decide +kernel
theorem dX7_verdict_48 : decode cX7_verdict 48 = .ok (.iload_n 1, 1) := by decide +kernel
theorem dX7_verdict_49 : decode cX7_verdict 49 = .ok (.iaload, 1) := by decide +kernel
theorem dX7_verdict_50 : decode cX7_verdict 50 = .ok (.iload_n 3, 1) := by decide +kernel
theorem dX7_verdict_51 : decode cX7_verdict 51 = .ok (.if_icmp .lt 7, 3) := by decide +kernel
theorem dX7_verdict_54 : decode cX7_verdict 54 = .ok (.iconst 2, 1) := by decide +kernel
theorem dX7_verdict_55 : decode cX7_verdict 55 = .ok (.goto 4, 3) := by decide +kernel
theorem dX7_verdict_58 : decode cX7_verdict 58 = .ok (.iconst 0, 1) := by decide +kernel
theorem dX7_verdict_59 : decode cX7_verdict 59 = .ok (.istore 5, 2) := by decide +kernel
theorem dX7_verdict_61 : decode cX7_verdict 61 = .ok (.iload 5, 2) := by decide +kernel
theorem dX7_verdict_63 : decode cX7_verdict 63 = .ok (.aload_n 0, 1) := by decide +kernel
theorem dX7_verdict_64 : decode cX7_verdict 64 = .ok (.getfield 53, 3) := by decide +kernel
theorem dX7_verdict_67 : decode cX7_verdict 67 = .ok (.getfield 194, 3) := by decide +kernel
theorem dX7_verdict_70 : decode cX7_verdict 70 = .ok (.iload_n 1, 1) := by decide +kernel
theorem dX7_verdict_71 : decode cX7_verdict 71 = .ok (.baload, 1) := by decide +kernel
theorem dX7_verdict_72 : decode cX7_verdict 72 = .ok (.ifCond .eq 7, 3) := by decide +kernel
theorem dX7_verdict_75 : decode cX7_verdict 75 = .ok (.iconst 1, 1) := by decide +kernel
theorem dX7_verdict_76 : decode cX7_verdict 76 = .ok (.goto 4, 3) := by decide +kernel
theorem dX7_verdict_79 : decode cX7_verdict 79 = .ok (.iconst 0, 1) := by decide +kernel
theorem dX7_verdict_80 : decode cX7_verdict 80 = .ok (.iadd, 1) := by decide +kernel
theorem dX7_verdict_81 : decode cX7_verdict 81 = .ok (.ireturn, 1) := by decide +kernel
theorem dX7_filtered_0 : decode cX7_filtered 0 = .ok (.aload_n 0, 1) := by decide +kernel
theorem dX7_filtered_1 : decode cX7_filtered 1 = .ok (.iload_n 1, 1) := by decide +kernel
theorem dX7_filtered_2 : decode cX7_filtered 2 = .ok (.invokevirtual 87, 3) := by decide +kernel
theorem dX7_filtered_5 : decode cX7_filtered 5 = .ok (.iload_n 2, 1) := by decide +kernel
theorem dX7_filtered_6 : decode cX7_filtered 6 = .ok (.iload_n 3, 1) := by decide +kernel
theorem dX7_filtered_7 : decode cX7_filtered 7 = .ok (.iload 4, 2) := by decide +kernel
theorem dX7_filtered_9 : decode cX7_filtered 9 = .ok (.invokestatic 186, 3) := by decide +kernel
theorem dX7_filtered_12 : decode cX7_filtered 12 = .ok (.aload_n 0, 1) := by decide +kernel
theorem dX7_filtered_13 : decode cX7_filtered 13 = .ok (.invokevirtual 102, 3) := by decide +kernel
theorem dX7_filtered_16 : decode cX7_filtered 16 = .ok (.aload_n 0, 1) := by decide +kernel
theorem dX7_filtered_17 : decode cX7_filtered 17 = .ok (.getfield 53, 3) := by decide +kernel
theorem dX7_filtered_20 : decode cX7_filtered 20 = .ok (.aload_n 0, 1) := by decide +kernel
theorem dX7_filtered_21 : decode cX7_filtered 21 = .ok (.getfield 36, 3) := by decide +kernel
theorem dX7_filtered_24 : decode cX7_filtered 24 = .ok (.aload_n 0, 1) := by decide +kernel
theorem dX7_filtered_25 : decode cX7_filtered 25 = .ok (.getfield 46, 3) := by decide +kernel
theorem dX7_filtered_28 : decode cX7_filtered 28 = .ok (.getfield 151, 3) := by decide +kernel
theorem dX7_filtered_31 : decode cX7_filtered 31 = .ok (.iload_n 2, 1) := by decide +kernel
theorem dX7_filtered_32 : decode cX7_filtered 32 = .ok (.aaload, 1) := by decide +kernel
theorem dX7_filtered_33 : decode cX7_filtered 33 = .ok (.iload_n 3, 1) := by decide +kernel
theorem dX7_filtered_34 : decode cX7_filtered 34 = .ok (.iload 4, 2) := by decide +kernel
theorem dX7_filtered_36 : decode cX7_filtered 36 = .ok (.invokevirtual 190, 3) := by decide +kernel
theorem dX7_filtered_39 : decode cX7_filtered 39 = .ok (.aload_n 0, 1) := by decide +kernel
theorem dX7_filtered_40 : decode cX7_filtered 40 = .ok (.getfield 53, 3) := by decide +kernel
theorem dX7_filtered_43 : decode cX7_filtered 43 = .ok (.getfield 198, 3) := by decide +kernel
theorem dX7_filtered_46 : decode cX7_filtered 46 = .ok (.aload_n 0, 1) := by decide +kernel
theorem dX7_filtered_47 : decode cX7_filtered 47 = .ok (.getfield 36, 3) := by decide +kernel
theorem dX7_filtered_50 : decode cX7_filtered 50 = .ok (.getfield 145, 3) := by decide +kernel
theorem dX7_filtered_53 : decode cX7_filtered 53 = .ok (.iload_n 1, 1) := by decide +kernel
theorem dX7_filtered_54 : decode cX7_filtered 54 = .ok (.iaload, 1) := by decide +kernel
theorem dX7_filtered_55 : decode cX7_filtered 55 = .ok (.iaload, 1) := by decide +kernel
theorem dX7_filtered_56 : decode cX7_filtered 56 = .ok (.aload_n 0, 1) := by decide +kernel
theorem dX7_filtered_57 : decode cX7_filtered 57 = .ok (.getfield 61, 3) := by decide +kernel
theorem dX7_filtered_60 : decode cX7_filtered 60 = .ok (.invokestatic 201, 3) := by decide +kernel
theorem dX7_filtered_63 : decode cX7_filtered 63 = .ok (.ireturn, 1) := by decide +kernel
theorem dX7_loss_0 : decode cX7_loss 0 = .ok (.iload_n 1, 1) := by decide +kernel
theorem dX7_loss_1 : decode cX7_loss 1 = .ok (.iload_n 2, 1) := by decide +kernel
theorem dX7_loss_2 : decode cX7_loss 2 = .ok (.iload_n 3, 1) := by decide +kernel
theorem dX7_loss_3 : decode cX7_loss 3 = .ok (.invokestatic 186, 3) := by decide +kernel
theorem dX7_loss_6 : decode cX7_loss 6 = .ok (.aload_n 0, 1) := by decide +kernel
theorem dX7_loss_7 : decode cX7_loss 7 = .ok (.invokevirtual 102, 3) := by decide +kernel
theorem dX7_loss_10 : decode cX7_loss 10 = .ok (.aload_n 0, 1) := by decide +kernel
theorem dX7_loss_11 : decode cX7_loss 11 = .ok (.iload_n 1, 1) := by decide +kernel
theorem dX7_loss_12 : decode cX7_loss 12 = .ok (.iload_n 2, 1) := by decide +kernel
theorem dX7_loss_13 : decode cX7_loss 13 = .ok (.iload_n 3, 1) := by decide +kernel
theorem dX7_loss_14 : decode cX7_loss 14 = .ok (.invokevirtual 205, 3) := by decide +kernel
theorem dX7_loss_17 : decode cX7_loss 17 = .ok (.ireturn, 1) := by decide +kernel
theorem dX7_filter_0 : decode cX7_filter 0 = .ok (.iload_n 1, 1) := by decide +kernel
theorem dX7_filter_1 : decode cX7_filter 1 = .ok (.iload_n 2, 1) := by decide +kernel
theorem dX7_filter_2 : decode cX7_filter 2 = .ok (.iload_n 3, 1) := by decide +kernel
theorem dX7_filter_3 : decode cX7_filter 3 = .ok (.invokestatic 186, 3) := by decide +kernel
theorem dX7_filter_6 : decode cX7_filter 6 = .ok (.aload_n 0, 1) := by decide +kernel
theorem dX7_filter_7 : decode cX7_filter 7 = .ok (.invokevirtual 102, 3) := by decide +kernel
theorem dX7_filter_10 : decode cX7_filter 10 = .ok (.aload_n 0, 1) := by decide +kernel
theorem dX7_filter_11 : decode cX7_filter 11 = .ok (.getfield 53, 3) := by decide +kernel
theorem dX7_filter_14 : decode cX7_filter 14 = .ok (.aload_n 0, 1) := by decide +kernel
theorem dX7_filter_15 : decode cX7_filter 15 = .ok (.getfield 36, 3) := by decide +kernel
theorem dX7_filter_18 : decode cX7_filter 18 = .ok (.aload_n 0, 1) := by decide +kernel
theorem dX7_filter_19 : decode cX7_filter 19 = .ok (.getfield 46, 3) := by decide +kernel
theorem dX7_filter_22 : decode cX7_filter 22 = .ok (.getfield 151, 3) := by decide +kernel
theorem dX7_filter_25 : decode cX7_filter 25 = .ok (.iload_n 1, 1) := by decide +kernel
theorem dX7_filter_26 : decode cX7_filter 26 = .ok (.aaload, 1) := by decide +kernel
theorem dX7_filter_27 : decode cX7_filter 27 = .ok (.iload_n 2, 1) := by decide +kernel
theorem dX7_filter_28 : decode cX7_filter 28 = .ok (.iload_n 3, 1) := by decide +kernel
theorem dX7_filter_29 : decode cX7_filter 29 = .ok (.invokevirtual 190, 3) := by decide +kernel
theorem dX7_filter_32 : decode cX7_filter 32 = .ok (.aload_n 0, 1) := by decide +kernel
theorem dX7_filter_33 : decode cX7_filter 33 = .ok (.invokevirtual 208, 3) := by decide +kernel
theorem dX7_filter_36 : decode cX7_filter 36 = .ok (.ireturn, 1) := by decide +kernel
theorem dX7_threshold_0 : decode cX7_threshold 0 = .ok (.iload_n 1, 1) := by decide +kernel
theorem dX7_threshold_1 : decode cX7_threshold 1 = .ok (.invokestatic 211, 3) := by decide +kernel
theorem dX7_threshold_4 : decode cX7_threshold 4 = .ok (.invokestatic 71, 3) := by decide +kernel
theorem dX7_threshold_7 : decode cX7_threshold 7 = .ok (.iload_n 2, 1) := by decide +kernel
theorem dX7_threshold_8 : decode cX7_threshold 8 = .ok (.ifCond .lt 14, 3) := by decide +kernel
theorem dX7_threshold_11 : decode cX7_threshold 11 = .ok (.iload_n 2, 1) := by decide +kernel
theorem dX7_threshold_12 : decode cX7_threshold 12 = .ok (.sipush 999, 3) := by decide +kernel
theorem dX7_threshold_15 : decode cX7_threshold 15 = .ok (.if_icmp .gt 7, 3) := by decide +kernel
theorem dX7_threshold_18 : decode cX7_threshold 18 = .ok (.iconst 1, 1) := by decide +kernel
theorem dX7_threshold_19 : decode cX7_threshold 19 = .ok (.goto 4, 3) := by decide +kernel
theorem dX7_threshold_22 : decode cX7_threshold 22 = .ok (.iconst 0, 1) := by decide +kernel
theorem dX7_threshold_23 : decode cX7_threshold 23 = .ok (.invokestatic 71, 3) := by decide +kernel
theorem dX7_threshold_26 : decode cX7_threshold 26 = .ok (.aload_n 0, 1) := by decide +kernel
theorem dX7_threshold_27 : decode cX7_threshold 27 = .ok (.invokevirtual 102, 3) := by decide +kernel
theorem dX7_threshold_30 : decode cX7_threshold 30 = .ok (.iconst 0, 1) := by decide +kernel
theorem dX7_threshold_31 : decode cX7_threshold 31 = .ok (.istore_n 3, 1) := by decide +kernel
theorem dX7_threshold_32 : decode cX7_threshold 32 = .ok (.sipush 512, 3) := by decide +kernel
theorem dX7_threshold_35 : decode cX7_threshold 35 = .ok (.istore 4, 2) := by decide +kernel
theorem dX7_threshold_37 : decode cX7_threshold 37 = .ok (.iload 4, 2) := by decide +kernel
theorem dX7_threshold_39 : decode cX7_threshold 39 = .ok (.ifCond .le 41, 3) := by decide +kernel
theorem dX7_threshold_42 : decode cX7_threshold 42 = .ok (.iload_n 3, 1) := by decide +kernel
theorem dX7_threshold_43 : decode cX7_threshold 43 = .ok (.iload 4, 2) := by decide +kernel
theorem dX7_threshold_45 : decode cX7_threshold 45 = .ok (.iadd, 1) := by decide +kernel
theorem dX7_threshold_46 : decode cX7_threshold 46 = .ok (.istore 5, 2) := by decide +kernel
theorem dX7_threshold_48 : decode cX7_threshold 48 = .ok (.iload 5, 2) := by decide +kernel
theorem dX7_threshold_50 : decode cX7_threshold 50 = .ok (.sipush 999, 3) := by decide +kernel
theorem dX7_threshold_53 : decode cX7_threshold 53 = .ok (.if_icmp .gt 18, 3) := by decide +kernel
theorem dX7_threshold_56 : decode cX7_threshold 56 = .ok (.aload_n 0, 1) := by decide +kernel
theorem dX7_threshold_57 : decode cX7_threshold 57 = .ok (.iload_n 1, 1) := by decide +kernel
theorem dX7_threshold_58 : decode cX7_threshold 58 = .ok (.iload 5, 2) := by decide +kernel
theorem dX7_threshold_60 : decode cX7_threshold 60 = .ok (.iconst 1, 1) := by decide +kernel
theorem dX7_threshold_61 : decode cX7_threshold 61 = .ok (.invokevirtual 205, 3) := by decide +kernel
theorem dX7_threshold_64 : decode cX7_threshold 64 = .ok (.iload_n 2, 1) := by decide +kernel
theorem dX7_threshold_65 : decode cX7_threshold 65 = .ok (.if_icmp .gt 6, 3) := by decide +kernel
theorem dX7_threshold_68 : decode cX7_threshold 68 = .ok (.iload 5, 2) := by decide +kernel
theorem dX7_threshold_70 : decode cX7_threshold 70 = .ok (.istore_n 3, 1) := by decide +kernel
theorem dX7_threshold_71 : decode cX7_threshold 71 = .ok (.iload 4, 2) := by decide +kernel
theorem dX7_threshold_73 : decode cX7_threshold 73 = .ok (.iconst 2, 1) := by decide +kernel
theorem dX7_threshold_74 : decode cX7_threshold 74 = .ok (.idiv, 1) := by decide +kernel
theorem dX7_threshold_75 : decode cX7_threshold 75 = .ok (.istore 4, 2) := by decide +kernel
theorem dX7_threshold_77 : decode cX7_threshold 77 = .ok (.goto (-40), 3) := by decide +kernel
theorem dX7_threshold_80 : decode cX7_threshold 80 = .ok (.iload_n 3, 1) := by decide +kernel
theorem dX7_threshold_81 : decode cX7_threshold 81 = .ok (.sipush 999, 3) := by decide +kernel
theorem dX7_threshold_84 : decode cX7_threshold 84 = .ok (.if_icmp .ne 7, 3) := by decide +kernel
theorem dX7_threshold_87 : decode cX7_threshold 87 = .ok (.iconst (-1), 1) := by decide +kernel
theorem dX7_threshold_88 : decode cX7_threshold 88 = .ok (.goto 6, 3) := by decide +kernel
theorem dX7_threshold_91 : decode cX7_threshold 91 = .ok (.iload_n 3, 1) := by decide +kernel
theorem dX7_threshold_92 : decode cX7_threshold 92 = .ok (.iconst 1, 1) := by decide +kernel
theorem dX7_threshold_93 : decode cX7_threshold 93 = .ok (.iadd, 1) := by decide +kernel
theorem dX7_threshold_94 : decode cX7_threshold 94 = .ok (.ireturn, 1) := by decide +kernel
theorem dX7_reconstruct_0 : decode cX7_reconstruct 0 = .ok (.aload_n 0, 1) := by decide +kernel
theorem dX7_reconstruct_1 : decode cX7_reconstruct 1 = .ok (.invokevirtual 102, 3) := by decide +kernel
theorem dX7_reconstruct_4 : decode cX7_reconstruct 4 = .ok (.iconst 0, 1) := by decide +kernel
theorem dX7_reconstruct_5 : decode cX7_reconstruct 5 = .ok (.istore_n 1, 1) := by decide +kernel
theorem dX7_reconstruct_6 : decode cX7_reconstruct 6 = .ok (.iload_n 1, 1) := by decide +kernel
theorem dX7_reconstruct_7 : decode cX7_reconstruct 7 = .ok (.aload_n 0, 1) := by decide +kernel
theorem dX7_reconstruct_8 : decode cX7_reconstruct 8 = .ok (.getfield 10, 3) := by decide +kernel
theorem dX7_reconstruct_11 : decode cX7_reconstruct 11 = .ok (.invokevirtual 75, 3) := by decide +kernel
theorem dX7_reconstruct_14 : decode cX7_reconstruct 14 = .ok (.if_icmp .ge 31, 3) := by decide +kernel
theorem dX7_reconstruct_17 : decode cX7_reconstruct 17 = .ok (.aload_n 0, 1) := by decide +kernel
theorem dX7_reconstruct_18 : decode cX7_reconstruct 18 = .ok (.getfield 57, 3) := by decide +kernel
theorem dX7_reconstruct_21 : decode cX7_reconstruct 21 = .ok (.iload_n 1, 1) := by decide +kernel
theorem dX7_reconstruct_22 : decode cX7_reconstruct 22 = .ok (.aload_n 0, 1) := by decide +kernel
theorem dX7_reconstruct_23 : decode cX7_reconstruct 23 = .ok (.getfield 10, 3) := by decide +kernel
theorem dX7_reconstruct_26 : decode cX7_reconstruct 26 = .ok (.getfield 109, 3) := by decide +kernel
theorem dX7_reconstruct_29 : decode cX7_reconstruct 29 = .ok (.iload_n 1, 1) := by decide +kernel
theorem dX7_reconstruct_30 : decode cX7_reconstruct 30 = .ok (.iaload, 1) := by decide +kernel
theorem dX7_reconstruct_31 : decode cX7_reconstruct 31 = .ok (.aload_n 0, 1) := by decide +kernel
theorem dX7_reconstruct_32 : decode cX7_reconstruct 32 = .ok (.getfield 61, 3) := by decide +kernel
theorem dX7_reconstruct_35 : decode cX7_reconstruct 35 = .ok (.invokestatic 201, 3) := by decide +kernel
theorem dX7_reconstruct_38 : decode cX7_reconstruct 38 = .ok (.iastore, 1) := by decide +kernel
theorem dX7_reconstruct_39 : decode cX7_reconstruct 39 = .ok (.iinc 1 1, 3) := by decide +kernel
theorem dX7_reconstruct_42 : decode cX7_reconstruct 42 = .ok (.goto (-36), 3) := by decide +kernel
theorem dX7_reconstruct_45 : decode cX7_reconstruct 45 = .ok (.aload_n 0, 1) := by decide +kernel
theorem dX7_reconstruct_46 : decode cX7_reconstruct 46 = .ok (.getfield 53, 3) := by decide +kernel
theorem dX7_reconstruct_49 : decode cX7_reconstruct 49 = .ok (.aload_n 0, 1) := by decide +kernel
theorem dX7_reconstruct_50 : decode cX7_reconstruct 50 = .ok (.getfield 36, 3) := by decide +kernel
theorem dX7_reconstruct_53 : decode cX7_reconstruct 53 = .ok (.aload_n 0, 1) := by decide +kernel
theorem dX7_reconstruct_54 : decode cX7_reconstruct 54 = .ok (.getfield 57, 3) := by decide +kernel
theorem dX7_reconstruct_57 : decode cX7_reconstruct 57 = .ok (.invokevirtual 214, 3) := by decide +kernel
theorem dX7_reconstruct_60 : decode cX7_reconstruct 60 = .ok (.aload_n 0, 1) := by decide +kernel
theorem dX7_reconstruct_61 : decode cX7_reconstruct 61 = .ok (.invokevirtual 208, 3) := by decide +kernel
theorem dX7_reconstruct_64 : decode cX7_reconstruct 64 = .ok (.ireturn, 1) := by decide +kernel
theorem dX7_suppress_0 : decode cX7_suppress 0 = .ok (.iload_n 1, 1) := by decide +kernel
theorem dX7_suppress_1 : decode cX7_suppress 1 = .ok (.invokestatic 91, 3) := by decide +kernel
theorem dX7_suppress_4 : decode cX7_suppress 4 = .ok (.invokestatic 71, 3) := by decide +kernel
theorem dX7_suppress_7 : decode cX7_suppress 7 = .ok (.aload_n 0, 1) := by decide +kernel
theorem dX7_suppress_8 : decode cX7_suppress 8 = .ok (.invokevirtual 102, 3) := by decide +kernel
theorem dX7_suppress_11 : decode cX7_suppress 11 = .ok (.iconst 0, 1) := by decide +kernel
theorem dX7_suppress_12 : decode cX7_suppress 12 = .ok (.istore_n 2, 1) := by decide +kernel
theorem dX7_suppress_13 : decode cX7_suppress 13 = .ok (.iload_n 2, 1) := by decide +kernel
theorem dX7_suppress_14 : decode cX7_suppress 14 = .ok (.aload_n 0, 1) := by decide +kernel
theorem dX7_suppress_15 : decode cX7_suppress 15 = .ok (.getfield 10, 3) := by decide +kernel
theorem dX7_suppress_18 : decode cX7_suppress 18 = .ok (.invokevirtual 75, 3) := by decide +kernel
theorem dX7_suppress_21 : decode cX7_suppress 21 = .ok (.if_icmp .ge 37, 3) := by decide +kernel
theorem dX7_suppress_24 : decode cX7_suppress 24 = .ok (.aload_n 0, 1) := by decide +kernel
theorem dX7_suppress_25 : decode cX7_suppress 25 = .ok (.getfield 57, 3) := by decide +kernel
theorem dX7_suppress_28 : decode cX7_suppress 28 = .ok (.iload_n 2, 1) := by decide +kernel
theorem dX7_suppress_29 : decode cX7_suppress 29 = .ok (.iconst 0, 1) := by decide +kernel
theorem dX7_suppress_30 : decode cX7_suppress 30 = .ok (.aload_n 0, 1) := by decide +kernel
theorem dX7_suppress_31 : decode cX7_suppress 31 = .ok (.getfield 10, 3) := by decide +kernel
theorem dX7_suppress_34 : decode cX7_suppress 34 = .ok (.getfield 95, 3) := by decide +kernel
theorem dX7_suppress_37 : decode cX7_suppress 37 = .ok (.iload_n 2, 1) := by decide +kernel
theorem dX7_suppress_38 : decode cX7_suppress 38 = .ok (.iaload, 1) := by decide +kernel
theorem dX7_suppress_39 : decode cX7_suppress 39 = .ok (.aload_n 0, 1) := by decide +kernel
theorem dX7_suppress_40 : decode cX7_suppress 40 = .ok (.getfield 61, 3) := by decide +kernel
theorem dX7_suppress_43 : decode cX7_suppress 43 = .ok (.invokestatic 201, 3) := by decide +kernel
theorem dX7_suppress_46 : decode cX7_suppress 46 = .ok (.iload_n 1, 1) := by decide +kernel
theorem dX7_suppress_47 : decode cX7_suppress 47 = .ok (.isub, 1) := by decide +kernel
theorem dX7_suppress_48 : decode cX7_suppress 48 = .ok (.invokestatic 218, 3) := by decide +kernel
theorem dX7_suppress_51 : decode cX7_suppress 51 = .ok (.iastore, 1) := by decide +kernel
theorem dX7_suppress_52 : decode cX7_suppress 52 = .ok (.iinc 2 1, 3) := by decide +kernel
theorem dX7_suppress_55 : decode cX7_suppress 55 = .ok (.goto (-42), 3) := by decide +kernel
theorem dX7_suppress_58 : decode cX7_suppress 58 = .ok (.aload_n 0, 1) := by decide +kernel
theorem dX7_suppress_59 : decode cX7_suppress 59 = .ok (.getfield 53, 3) := by decide +kernel
theorem dX7_suppress_62 : decode cX7_suppress 62 = .ok (.aload_n 0, 1) := by decide +kernel
theorem dX7_suppress_63 : decode cX7_suppress 63 = .ok (.getfield 36, 3) := by decide +kernel
theorem dX7_suppress_66 : decode cX7_suppress 66 = .ok (.aload_n 0, 1) := by decide +kernel
theorem dX7_suppress_67 : decode cX7_suppress 67 = .ok (.getfield 57, 3) := by decide +kernel
theorem dX7_suppress_70 : decode cX7_suppress 70 = .ok (.invokevirtual 214, 3) := by decide +kernel
theorem dX7_suppress_73 : decode cX7_suppress 73 = .ok (.aload_n 0, 1) := by decide +kernel
theorem dX7_suppress_74 : decode cX7_suppress 74 = .ok (.invokevirtual 208, 3) := by decide +kernel
theorem dX7_suppress_77 : decode cX7_suppress 77 = .ok (.ireturn, 1) := by decide +kernel
theorem dX7_keepPeaks_0 : decode cX7_keepPeaks 0 = .ok (.iload_n 1, 1) := by decide +kernel
theorem dX7_keepPeaks_1 : decode cX7_keepPeaks 1 = .ok (.ifCond .lt 13, 3) := by decide +kernel
theorem dX7_keepPeaks_4 : decode cX7_keepPeaks 4 = .ok (.iload_n 1, 1) := by decide +kernel
theorem dX7_keepPeaks_5 : decode cX7_keepPeaks 5 = .ok (.bipush 64, 2) := by decide +kernel
theorem dX7_keepPeaks_7 : decode cX7_keepPeaks 7 = .ok (.if_icmp .gt 7, 3) := by decide +kernel
theorem dX7_keepPeaks_10 : decode cX7_keepPeaks 10 = .ok (.iconst 1, 1) := by decide +kernel
theorem dX7_keepPeaks_11 : decode cX7_keepPeaks 11 = .ok (.goto 4, 3) := by decide +kernel
theorem dX7_keepPeaks_14 : decode cX7_keepPeaks 14 = .ok (.iconst 0, 1) := by decide +kernel
theorem dX7_keepPeaks_15 : decode cX7_keepPeaks 15 = .ok (.invokestatic 71, 3) := by decide +kernel
theorem dX7_keepPeaks_18 : decode cX7_keepPeaks 18 = .ok (.aload_n 0, 1) := by decide +kernel
theorem dX7_keepPeaks_19 : decode cX7_keepPeaks 19 = .ok (.invokevirtual 102, 3) := by decide +kernel
theorem dX7_keepPeaks_22 : decode cX7_keepPeaks 22 = .ok (.aload_n 0, 1) := by decide +kernel
theorem dX7_keepPeaks_23 : decode cX7_keepPeaks 23 = .ok (.getfield 53, 3) := by decide +kernel
theorem dX7_keepPeaks_26 : decode cX7_keepPeaks 26 = .ok (.aload_n 0, 1) := by decide +kernel
theorem dX7_keepPeaks_27 : decode cX7_keepPeaks 27 = .ok (.getfield 36, 3) := by decide +kernel
theorem dX7_keepPeaks_30 : decode cX7_keepPeaks 30 = .ok (.aload_n 0, 1) := by decide +kernel
theorem dX7_keepPeaks_31 : decode cX7_keepPeaks 31 = .ok (.getfield 46, 3) := by decide +kernel
theorem dX7_keepPeaks_34 : decode cX7_keepPeaks 34 = .ok (.getfield 175, 3) := by decide +kernel
theorem dX7_keepPeaks_37 : decode cX7_keepPeaks 37 = .ok (.iload_n 1, 1) := by decide +kernel
theorem dX7_keepPeaks_38 : decode cX7_keepPeaks 38 = .ok (.aload_n 0, 1) := by decide +kernel
theorem dX7_keepPeaks_39 : decode cX7_keepPeaks 39 = .ok (.getfield 36, 3) := by decide +kernel
theorem dX7_keepPeaks_42 : decode cX7_keepPeaks 42 = .ok (.getfield 172, 3) := by decide +kernel
theorem dX7_keepPeaks_45 : decode cX7_keepPeaks 45 = .ok (.invokestatic 221, 3) := by decide +kernel
theorem dX7_keepPeaks_48 : decode cX7_keepPeaks 48 = .ok (.invokevirtual 224, 3) := by decide +kernel
theorem dX7_keepPeaks_51 : decode cX7_keepPeaks 51 = .ok (.aload_n 0, 1) := by decide +kernel
theorem dX7_keepPeaks_52 : decode cX7_keepPeaks 52 = .ok (.invokevirtual 208, 3) := by decide +kernel
theorem dX7_keepPeaks_55 : decode cX7_keepPeaks 55 = .ok (.ireturn, 1) := by decide +kernel
theorem dX7_ifLevel_0 : decode cX7_ifLevel 0 = .ok (.aload_n 0, 1) := by decide +kernel
theorem dX7_ifLevel_1 : decode cX7_ifLevel 1 = .ok (.iload_n 1, 1) := by decide +kernel
theorem dX7_ifLevel_2 : decode cX7_ifLevel 2 = .ok (.invokevirtual 87, 3) := by decide +kernel
theorem dX7_ifLevel_5 : decode cX7_ifLevel 5 = .ok (.iload_n 2, 1) := by decide +kernel
theorem dX7_ifLevel_6 : decode cX7_ifLevel 6 = .ok (.invokestatic 91, 3) := by decide +kernel
theorem dX7_ifLevel_9 : decode cX7_ifLevel 9 = .ok (.invokestatic 71, 3) := by decide +kernel
theorem dX7_ifLevel_12 : decode cX7_ifLevel 12 = .ok (.iload_n 3, 1) := by decide +kernel
theorem dX7_ifLevel_13 : decode cX7_ifLevel 13 = .ok (.iconst 2, 1) := by decide +kernel
theorem dX7_ifLevel_14 : decode cX7_ifLevel 14 = .ok (.if_icmp .lt 12, 3) := by decide +kernel
theorem dX7_ifLevel_17 : decode cX7_ifLevel 17 = .ok (.iload_n 3, 1) := by decide +kernel
theorem dX7_ifLevel_18 : decode cX7_ifLevel 18 = .ok (.iconst 4, 1) := by decide +kernel
theorem dX7_ifLevel_19 : decode cX7_ifLevel 19 = .ok (.if_icmp .gt 7, 3) := by decide +kernel
theorem dX7_ifLevel_22 : decode cX7_ifLevel 22 = .ok (.iconst 1, 1) := by decide +kernel
theorem dX7_ifLevel_23 : decode cX7_ifLevel 23 = .ok (.goto 4, 3) := by decide +kernel
theorem dX7_ifLevel_26 : decode cX7_ifLevel 26 = .ok (.iconst 0, 1) := by decide +kernel
theorem dX7_ifLevel_27 : decode cX7_ifLevel 27 = .ok (.invokestatic 71, 3) := by decide +kernel
theorem dX7_ifLevel_30 : decode cX7_ifLevel 30 = .ok (.aload_n 0, 1) := by decide +kernel
theorem dX7_ifLevel_31 : decode cX7_ifLevel 31 = .ok (.getfield 16, 3) := by decide +kernel
theorem dX7_ifLevel_34 : decode cX7_ifLevel 34 = .ok (.aload_n 0, 1) := by decide +kernel
theorem dX7_ifLevel_35 : decode cX7_ifLevel 35 = .ok (.getfield 10, 3) := by decide +kernel
theorem dX7_ifLevel_38 : decode cX7_ifLevel 38 = .ok (.invokevirtual 228, 3) := by decide +kernel
theorem dX7_ifLevel_41 : decode cX7_ifLevel 41 = .ok (.aload_n 0, 1) := by decide +kernel
theorem dX7_ifLevel_42 : decode cX7_ifLevel 42 = .ok (.getfield 16, 3) := by decide +kernel
theorem dX7_ifLevel_45 : decode cX7_ifLevel 45 = .ok (.getfield 95, 3) := by decide +kernel
theorem dX7_ifLevel_48 : decode cX7_ifLevel 48 = .ok (.iload_n 1, 1) := by decide +kernel
theorem dX7_ifLevel_49 : decode cX7_ifLevel 49 = .ok (.iload_n 2, 1) := by decide +kernel
theorem dX7_ifLevel_50 : decode cX7_ifLevel 50 = .ok (.iastore, 1) := by decide +kernel
theorem dX7_ifLevel_51 : decode cX7_ifLevel 51 = .ok (.aload_n 0, 1) := by decide +kernel
theorem dX7_ifLevel_52 : decode cX7_ifLevel 52 = .ok (.getfield 40, 3) := by decide +kernel
theorem dX7_ifLevel_55 : decode cX7_ifLevel 55 = .ok (.aload_n 0, 1) := by decide +kernel
theorem dX7_ifLevel_56 : decode cX7_ifLevel 56 = .ok (.getfield 16, 3) := by decide +kernel
theorem dX7_ifLevel_59 : decode cX7_ifLevel 59 = .ok (.aload_n 0, 1) := by decide +kernel
theorem dX7_ifLevel_60 : decode cX7_ifLevel 60 = .ok (.getfield 61, 3) := by decide +kernel
theorem dX7_ifLevel_63 : decode cX7_ifLevel 63 = .ok (.aload_n 0, 1) := by decide +kernel
theorem dX7_ifLevel_64 : decode cX7_ifLevel 64 = .ok (.getfield 65, 3) := by decide +kernel
theorem dX7_ifLevel_67 : decode cX7_ifLevel 67 = .ok (.invokevirtual 231, 3) := by decide +kernel
theorem dX7_ifLevel_70 : decode cX7_ifLevel 70 = .ok (.aload_n 0, 1) := by decide +kernel
theorem dX7_ifLevel_71 : decode cX7_ifLevel 71 = .ok (.getfield 40, 3) := by decide +kernel
theorem dX7_ifLevel_74 : decode cX7_ifLevel 74 = .ok (.iload_n 3, 1) := by decide +kernel
theorem dX7_ifLevel_75 : decode cX7_ifLevel 75 = .ok (.invokevirtual 235, 3) := by decide +kernel
theorem dX7_ifLevel_78 : decode cX7_ifLevel 78 = .ok (.ireturn, 1) := by decide +kernel
theorem dX7_digest_0 : decode cX7_digest 0 = .ok (.aload_n 0, 1) := by decide +kernel
theorem dX7_digest_1 : decode cX7_digest 1 = .ok (.invokevirtual 102, 3) := by decide +kernel
theorem dX7_digest_4 : decode cX7_digest 4 = .ok (.ldc2_w 236, 3) := by decide +kernel
theorem dX7_digest_7 : decode cX7_digest 7 = .ok (.lstore_n 1, 1) := by decide +kernel
theorem dX7_digest_8 : decode cX7_digest 8 = .ok (.lload_n 1, 1) := by decide +kernel
theorem dX7_digest_9 : decode cX7_digest 9 = .ok (.aload_n 0, 1) := by decide +kernel
theorem dX7_digest_10 : decode cX7_digest 10 = .ok (.getfield 61, 3) := by decide +kernel
theorem dX7_digest_13 : decode cX7_digest 13 = .ok (.ifCond .eq 7, 3) := by decide +kernel
theorem dX7_digest_16 : decode cX7_digest 16 = .ok (.iconst 1, 1) := by decide +kernel
theorem dX7_digest_17 : decode cX7_digest 17 = .ok (.goto 4, 3) := by decide +kernel
theorem dX7_digest_20 : decode cX7_digest 20 = .ok (.iconst 0, 1) := by decide +kernel
theorem dX7_digest_21 : decode cX7_digest 21 = .ok (.invokestatic 238, 3) := by decide +kernel
theorem dX7_digest_24 : decode cX7_digest 24 = .ok (.lstore_n 1, 1) := by decide +kernel
theorem dX7_digest_25 : decode cX7_digest 25 = .ok (.lload_n 1, 1) := by decide +kernel
theorem dX7_digest_26 : decode cX7_digest 26 = .ok (.aload_n 0, 1) := by decide +kernel
theorem dX7_digest_27 : decode cX7_digest 27 = .ok (.getfield 65, 3) := by decide +kernel
theorem dX7_digest_30 : decode cX7_digest 30 = .ok (.ifCond .eq 7, 3) := by decide +kernel
theorem dX7_digest_33 : decode cX7_digest 33 = .ok (.iconst 1, 1) := by decide +kernel
theorem dX7_digest_34 : decode cX7_digest 34 = .ok (.goto 4, 3) := by decide +kernel
theorem dX7_digest_37 : decode cX7_digest 37 = .ok (.iconst 0, 1) := by decide +kernel
theorem dX7_digest_38 : decode cX7_digest 38 = .ok (.invokestatic 238, 3) := by decide +kernel
theorem dX7_digest_41 : decode cX7_digest 41 = .ok (.lstore_n 1, 1) := by decide +kernel
theorem dX7_digest_42 : decode cX7_digest 42 = .ok (.iconst 0, 1) := by decide +kernel
theorem dX7_digest_43 : decode cX7_digest 43 = .ok (.istore_n 3, 1) := by decide +kernel
theorem dX7_digest_44 : decode cX7_digest 44 = .ok (.iload_n 3, 1) := by decide +kernel
theorem dX7_digest_45 : decode cX7_digest 45 = .ok (.bipush 8, 2) := by decide +kernel
theorem dX7_digest_47 : decode cX7_digest 47 = .ok (.if_icmp .ge 19, 3) := by decide +kernel
theorem dX7_digest_50 : decode cX7_digest 50 = .ok (.lload_n 1, 1) := by decide +kernel
theorem dX7_digest_51 : decode cX7_digest 51 = .ok (.aload_n 0, 1) := by decide +kernel
theorem dX7_digest_52 : decode cX7_digest 52 = .ok (.iload_n 3, 1) := by decide +kernel
theorem dX7_digest_53 : decode cX7_digest 53 = .ok (.invokevirtual 142, 3) := by decide +kernel
theorem dX7_digest_56 : decode cX7_digest 56 = .ok (.invokestatic 238, 3) := by decide +kernel
theorem dX7_digest_59 : decode cX7_digest 59 = .ok (.lstore_n 1, 1) := by decide +kernel
theorem dX7_digest_60 : decode cX7_digest 60 = .ok (.iinc 3 1, 3) := by decide +kernel
theorem dX7_digest_63 : decode cX7_digest 63 = .ok (.goto (-19), 3) := by decide +kernel
theorem dX7_digest_66 : decode cX7_digest 66 = .ok (.aload_n 0, 1) := by decide +kernel
theorem dX7_digest_67 : decode cX7_digest 67 = .ok (.lload_n 1, 1) := by decide +kernel
theorem dX7_digest_68 : decode cX7_digest 68 = .ok (.invokevirtual 242, 3) := by decide +kernel
theorem dX7_digest_71 : decode cX7_digest 71 = .ok (.lstore_n 1, 1) := by decide +kernel
theorem dX7_digest_72 : decode cX7_digest 72 = .ok (.aload_n 0, 1) := by decide +kernel
theorem dX7_digest_73 : decode cX7_digest 73 = .ok (.lload_n 1, 1) := by decide +kernel
theorem dX7_digest_74 : decode cX7_digest 74 = .ok (.invokevirtual 246, 3) := by decide +kernel
theorem dX7_digest_77 : decode cX7_digest 77 = .ok (.lstore_n 1, 1) := by decide +kernel
theorem dX7_digest_78 : decode cX7_digest 78 = .ok (.lload_n 1, 1) := by decide +kernel
theorem dX7_digest_79 : decode cX7_digest 79 = .ok (.aload_n 0, 1) := by decide +kernel
theorem dX7_digest_80 : decode cX7_digest 80 = .ok (.iconst 1, 1) := by decide +kernel
theorem dX7_digest_81 : decode cX7_digest 81 = .ok (.iconst 3, 1) := by decide +kernel
theorem dX7_digest_82 : decode cX7_digest 82 = .ok (.iconst 1, 1) := by decide +kernel
theorem dX7_digest_83 : decode cX7_digest 83 = .ok (.invokevirtual 205, 3) := by decide +kernel
theorem dX7_digest_86 : decode cX7_digest 86 = .ok (.invokestatic 238, 3) := by decide +kernel
theorem dX7_digest_89 : decode cX7_digest 89 = .ok (.lstore_n 1, 1) := by decide +kernel
theorem dX7_digest_90 : decode cX7_digest 90 = .ok (.lload_n 1, 1) := by decide +kernel
theorem dX7_digest_91 : decode cX7_digest 91 = .ok (.aload_n 0, 1) := by decide +kernel
theorem dX7_digest_92 : decode cX7_digest 92 = .ok (.bipush 6, 2) := by decide +kernel
theorem dX7_digest_94 : decode cX7_digest 94 = .ok (.iconst 4, 1) := by decide +kernel
theorem dX7_digest_95 : decode cX7_digest 95 = .ok (.iconst 3, 1) := by decide +kernel
theorem dX7_digest_96 : decode cX7_digest 96 = .ok (.invokevirtual 205, 3) := by decide +kernel
theorem dX7_digest_99 : decode cX7_digest 99 = .ok (.invokestatic 238, 3) := by decide +kernel
theorem dX7_digest_102 : decode cX7_digest 102 = .ok (.lstore_n 1, 1) := by decide +kernel
theorem dX7_digest_103 : decode cX7_digest 103 = .ok (.lload_n 1, 1) := by decide +kernel
theorem dX7_digest_104 : decode cX7_digest 104 = .ok (.aload_n 0, 1) := by decide +kernel
theorem dX7_digest_105 : decode cX7_digest 105 = .ok (.getfield 29, 3) := by decide +kernel
theorem dX7_digest_108 : decode cX7_digest 108 = .ok (.getfield 126, 3) := by decide +kernel
theorem dX7_digest_111 : decode cX7_digest 111 = .ok (.invokestatic 238, 3) := by decide +kernel
theorem dX7_digest_114 : decode cX7_digest 114 = .ok (.lstore_n 1, 1) := by decide +kernel
theorem dX7_digest_115 : decode cX7_digest 115 = .ok (.iconst 0, 1) := by decide +kernel
theorem dX7_digest_116 : decode cX7_digest 116 = .ok (.istore_n 3, 1) := by decide +kernel
theorem dX7_digest_117 : decode cX7_digest 117 = .ok (.iload_n 3, 1) := by decide +kernel
theorem dX7_digest_118 : decode cX7_digest 118 = .ok (.aload_n 0, 1) := by decide +kernel
theorem dX7_digest_119 : decode cX7_digest 119 = .ok (.getfield 29, 3) := by decide +kernel
theorem dX7_digest_122 : decode cX7_digest 122 = .ok (.getfield 126, 3) := by decide +kernel
theorem dX7_digest_125 : decode cX7_digest 125 = .ok (.if_icmp .ge 23, 3) := by decide +kernel
theorem dX7_digest_128 : decode cX7_digest 128 = .ok (.lload_n 1, 1) := by decide +kernel
theorem dX7_digest_129 : decode cX7_digest 129 = .ok (.aload_n 0, 1) := by decide +kernel
theorem dX7_digest_130 : decode cX7_digest 130 = .ok (.getfield 29, 3) := by decide +kernel
theorem dX7_digest_133 : decode cX7_digest 133 = .ok (.getfield 249, 3) := by decide +kernel
theorem dX7_digest_136 : decode cX7_digest 136 = .ok (.iload_n 3, 1) := by decide +kernel
theorem dX7_digest_137 : decode cX7_digest 137 = .ok (.iaload, 1) := by decide +kernel
theorem dX7_digest_138 : decode cX7_digest 138 = .ok (.invokestatic 238, 3) := by decide +kernel
theorem dX7_digest_141 : decode cX7_digest 141 = .ok (.lstore_n 1, 1) := by decide +kernel
theorem dX7_digest_142 : decode cX7_digest 142 = .ok (.iinc 3 1, 3) := by decide +kernel
theorem dX7_digest_145 : decode cX7_digest 145 = .ok (.goto (-28), 3) := by decide +kernel
theorem dX7_digest_148 : decode cX7_digest 148 = .ok (.lload_n 1, 1) := by decide +kernel
theorem dX7_digest_149 : decode cX7_digest 149 = .ok (.lreturn, 1) := by decide +kernel
theorem dX7_withPixels_0 : decode cX7_withPixels 0 = .ok (.lload_n 1, 1) := by decide +kernel
theorem dX7_withPixels_1 : decode cX7_withPixels 1 = .ok (.lstore_n 3, 1) := by decide +kernel
theorem dX7_withPixels_2 : decode cX7_withPixels 2 = .ok (.iconst 0, 1) := by decide +kernel
theorem dX7_withPixels_3 : decode cX7_withPixels 3 = .ok (.istore 5, 2) := by decide +kernel
theorem dX7_withPixels_5 : decode cX7_withPixels 5 = .ok (.iload 5, 2) := by decide +kernel
theorem dX7_withPixels_7 : decode cX7_withPixels 7 = .ok (.aload_n 0, 1) := by decide +kernel
theorem dX7_withPixels_8 : decode cX7_withPixels 8 = .ok (.getfield 10, 3) := by decide +kernel
theorem dX7_withPixels_11 : decode cX7_withPixels 11 = .ok (.invokevirtual 75, 3) := by decide +kernel
theorem dX7_withPixels_14 : decode cX7_withPixels 14 = .ok (.if_icmp .ge 54, 3) := by decide +kernel
theorem dX7_withPixels_17 : decode cX7_withPixels 17 = .ok (.lload_n 3, 1) := by decide +kernel
theorem dX7_withPixels_18 : decode cX7_withPixels 18 = .ok (.aload_n 0, 1) := by decide +kernel
theorem dX7_withPixels_19 : decode cX7_withPixels 19 = .ok (.getfield 10, 3) := by decide +kernel
theorem dX7_withPixels_22 : decode cX7_withPixels 22 = .ok (.getfield 95, 3) := by decide +kernel
theorem dX7_withPixels_25 : decode cX7_withPixels 25 = .ok (.iload 5, 2) := by decide +kernel
theorem dX7_withPixels_27 : decode cX7_withPixels 27 = .ok (.iaload, 1) := by decide +kernel
theorem dX7_withPixels_28 : decode cX7_withPixels 28 = .ok (.invokestatic 238, 3) := by decide +kernel
theorem dX7_withPixels_31 : decode cX7_withPixels 31 = .ok (.lstore_n 3, 1) := by decide +kernel
theorem dX7_withPixels_32 : decode cX7_withPixels 32 = .ok (.lload_n 3, 1) := by decide +kernel
theorem dX7_withPixels_33 : decode cX7_withPixels 33 = .ok (.aload_n 0, 1) := by decide +kernel
theorem dX7_withPixels_34 : decode cX7_withPixels 34 = .ok (.getfield 10, 3) := by decide +kernel
theorem dX7_withPixels_37 : decode cX7_withPixels 37 = .ok (.getfield 109, 3) := by decide +kernel
theorem dX7_withPixels_40 : decode cX7_withPixels 40 = .ok (.iload 5, 2) := by decide +kernel
theorem dX7_withPixels_42 : decode cX7_withPixels 42 = .ok (.iaload, 1) := by decide +kernel
theorem dX7_withPixels_43 : decode cX7_withPixels 43 = .ok (.invokestatic 238, 3) := by decide +kernel
theorem dX7_withPixels_46 : decode cX7_withPixels 46 = .ok (.lstore_n 3, 1) := by decide +kernel
theorem dX7_withPixels_47 : decode cX7_withPixels 47 = .ok (.lload_n 3, 1) := by decide +kernel
theorem dX7_withPixels_48 : decode cX7_withPixels 48 = .ok (.aload_n 0, 1) := by decide +kernel
theorem dX7_withPixels_49 : decode cX7_withPixels 49 = .ok (.getfield 36, 3) := by decide +kernel
theorem dX7_withPixels_52 : decode cX7_withPixels 52 = .ok (.getfield 145, 3) := by decide +kernel
theorem dX7_withPixels_55 : decode cX7_withPixels 55 = .ok (.iload 5, 2) := by decide +kernel
theorem dX7_withPixels_57 : decode cX7_withPixels 57 = .ok (.iaload, 1) := by decide +kernel
theorem dX7_withPixels_58 : decode cX7_withPixels 58 = .ok (.invokestatic 238, 3) := by decide +kernel
theorem dX7_withPixels_61 : decode cX7_withPixels 61 = .ok (.lstore_n 3, 1) := by decide +kernel
theorem dX7_withPixels_62 : decode cX7_withPixels 62 = .ok (.iinc 5 1, 3) := by decide +kernel
theorem dX7_withPixels_65 : decode cX7_withPixels 65 = .ok (.goto (-60), 3) := by decide +kernel
theorem dX7_withPixels_68 : decode cX7_withPixels 68 = .ok (.lload_n 3, 1) := by decide +kernel
theorem dX7_withPixels_69 : decode cX7_withPixels 69 = .ok (.lreturn, 1) := by decide +kernel
theorem dX7_withTree_0 : decode cX7_withTree 0 = .ok (.lload_n 1, 1) := by decide +kernel
theorem dX7_withTree_1 : decode cX7_withTree 1 = .ok (.lstore_n 3, 1) := by decide +kernel
theorem dX7_withTree_2 : decode cX7_withTree 2 = .ok (.iconst 0, 1) := by decide +kernel
theorem dX7_withTree_3 : decode cX7_withTree 3 = .ok (.istore 5, 2) := by decide +kernel
theorem dX7_withTree_5 : decode cX7_withTree 5 = .ok (.iload 5, 2) := by decide +kernel
theorem dX7_withTree_7 : decode cX7_withTree 7 = .ok (.aload_n 0, 1) := by decide +kernel
theorem dX7_withTree_8 : decode cX7_withTree 8 = .ok (.getfield 36, 3) := by decide +kernel
theorem dX7_withTree_11 : decode cX7_withTree 11 = .ok (.getfield 105, 3) := by decide +kernel
theorem dX7_withTree_14 : decode cX7_withTree 14 = .ok (.if_icmp .ge 43, 3) := by decide +kernel
theorem dX7_withTree_17 : decode cX7_withTree 17 = .ok (.iconst 0, 1) := by decide +kernel
theorem dX7_withTree_18 : decode cX7_withTree 18 = .ok (.istore 6, 2) := by decide +kernel
theorem dX7_withTree_20 : decode cX7_withTree 20 = .ok (.iload 6, 2) := by decide +kernel
theorem dX7_withTree_22 : decode cX7_withTree 22 = .ok (.bipush 12, 2) := by decide +kernel
theorem dX7_withTree_24 : decode cX7_withTree 24 = .ok (.if_icmp .ge 27, 3) := by decide +kernel
theorem dX7_withTree_27 : decode cX7_withTree 27 = .ok (.lload_n 3, 1) := by decide +kernel
theorem dX7_withTree_28 : decode cX7_withTree 28 = .ok (.aload_n 0, 1) := by decide +kernel
theorem dX7_withTree_29 : decode cX7_withTree 29 = .ok (.getfield 46, 3) := by decide +kernel
theorem dX7_withTree_32 : decode cX7_withTree 32 = .ok (.getfield 151, 3) := by decide +kernel
theorem dX7_withTree_35 : decode cX7_withTree 35 = .ok (.iload 6, 2) := by decide +kernel
theorem dX7_withTree_37 : decode cX7_withTree 37 = .ok (.aaload, 1) := by decide +kernel
theorem dX7_withTree_38 : decode cX7_withTree 38 = .ok (.iload 5, 2) := by decide +kernel
theorem dX7_withTree_40 : decode cX7_withTree 40 = .ok (.iaload, 1) := by decide +kernel
theorem dX7_withTree_41 : decode cX7_withTree 41 = .ok (.invokestatic 238, 3) := by decide +kernel
theorem dX7_withTree_44 : decode cX7_withTree 44 = .ok (.lstore_n 3, 1) := by decide +kernel
theorem dX7_withTree_45 : decode cX7_withTree 45 = .ok (.iinc 6 1, 3) := by decide +kernel
theorem dX7_withTree_48 : decode cX7_withTree 48 = .ok (.goto (-28), 3) := by decide +kernel
theorem dX7_withTree_51 : decode cX7_withTree 51 = .ok (.iinc 5 1, 3) := by decide +kernel
theorem dX7_withTree_54 : decode cX7_withTree 54 = .ok (.goto (-49), 3) := by decide +kernel
theorem dX7_withTree_57 : decode cX7_withTree 57 = .ok (.iconst 0, 1) := by decide +kernel
theorem dX7_withTree_58 : decode cX7_withTree 58 = .ok (.istore 5, 2) := by decide +kernel
theorem dX7_withTree_60 : decode cX7_withTree 60 = .ok (.iload 5, 2) := by decide +kernel
theorem dX7_withTree_62 : decode cX7_withTree 62 = .ok (.aload_n 0, 1) := by decide +kernel
theorem dX7_withTree_63 : decode cX7_withTree 63 = .ok (.getfield 36, 3) := by decide +kernel
theorem dX7_withTree_66 : decode cX7_withTree 66 = .ok (.getfield 172, 3) := by decide +kernel
theorem dX7_withTree_69 : decode cX7_withTree 69 = .ok (.if_icmp .ge 24, 3) := by decide +kernel
theorem dX7_withTree_72 : decode cX7_withTree 72 = .ok (.lload_n 3, 1) := by decide +kernel
theorem dX7_withTree_73 : decode cX7_withTree 73 = .ok (.aload_n 0, 1) := by decide +kernel
theorem dX7_withTree_74 : decode cX7_withTree 74 = .ok (.getfield 46, 3) := by decide +kernel
theorem dX7_withTree_77 : decode cX7_withTree 77 = .ok (.getfield 175, 3) := by decide +kernel
theorem dX7_withTree_80 : decode cX7_withTree 80 = .ok (.iload 5, 2) := by decide +kernel
theorem dX7_withTree_82 : decode cX7_withTree 82 = .ok (.iaload, 1) := by decide +kernel
theorem dX7_withTree_83 : decode cX7_withTree 83 = .ok (.invokestatic 238, 3) := by decide +kernel
theorem dX7_withTree_86 : decode cX7_withTree 86 = .ok (.lstore_n 3, 1) := by decide +kernel
theorem dX7_withTree_87 : decode cX7_withTree 87 = .ok (.iinc 5 1, 3) := by decide +kernel
theorem dX7_withTree_90 : decode cX7_withTree 90 = .ok (.goto (-30), 3) := by decide +kernel
theorem dX7_withTree_93 : decode cX7_withTree 93 = .ok (.lload_n 3, 1) := by decide +kernel
theorem dX7_withTree_94 : decode cX7_withTree 94 = .ok (.lreturn, 1) := by decide +kernel
theorem dX7_mixed_0 : decode cX7_mixed 0 = .ok (.ldc2_w 252, 3) := by decide +kernel
theorem dX7_mixed_3 : decode cX7_mixed 3 = .ok (.lload_n 0, 1) := by decide +kernel
theorem dX7_mixed_4 : decode cX7_mixed 4 = .ok (.lmul, 1) := by decide +kernel
theorem dX7_mixed_5 : decode cX7_mixed 5 = .ok (.iload_n 2, 1) := by decide +kernel
theorem dX7_mixed_6 : decode cX7_mixed 6 = .ok (.i2l, 1) := by decide +kernel
theorem dX7_mixed_7 : decode cX7_mixed 7 = .ok (.ladd, 1) := by decide +kernel
theorem dX7_mixed_8 : decode cX7_mixed 8 = .ok (.lreturn, 1) := by decide +kernel
theorem dX7_refresh_0 : decode cX7_refresh 0 = .ok (.aload_n 0, 1) := by decide +kernel
theorem dX7_refresh_1 : decode cX7_refresh 1 = .ok (.getfield 68, 3) := by decide +kernel
theorem dX7_refresh_4 : decode cX7_refresh 4 = .ok (.ifCond .eq 38, 3) := by decide +kernel
theorem dX7_refresh_7 : decode cX7_refresh 7 = .ok (.aload_n 0, 1) := by decide +kernel
theorem dX7_refresh_8 : decode cX7_refresh 8 = .ok (.getfield 36, 3) := by decide +kernel
theorem dX7_refresh_11 : decode cX7_refresh 11 = .ok (.aload_n 0, 1) := by decide +kernel
theorem dX7_refresh_12 : decode cX7_refresh 12 = .ok (.getfield 10, 3) := by decide +kernel
theorem dX7_refresh_15 : decode cX7_refresh 15 = .ok (.aload_n 0, 1) := by decide +kernel
theorem dX7_refresh_16 : decode cX7_refresh 16 = .ok (.getfield 61, 3) := by decide +kernel
theorem dX7_refresh_19 : decode cX7_refresh 19 = .ok (.aload_n 0, 1) := by decide +kernel
theorem dX7_refresh_20 : decode cX7_refresh 20 = .ok (.getfield 65, 3) := by decide +kernel
theorem dX7_refresh_23 : decode cX7_refresh 23 = .ok (.invokevirtual 231, 3) := by decide +kernel
theorem dX7_refresh_26 : decode cX7_refresh 26 = .ok (.aload_n 0, 1) := by decide +kernel
theorem dX7_refresh_27 : decode cX7_refresh 27 = .ok (.getfield 46, 3) := by decide +kernel
theorem dX7_refresh_30 : decode cX7_refresh 30 = .ok (.aload_n 0, 1) := by decide +kernel
theorem dX7_refresh_31 : decode cX7_refresh 31 = .ok (.getfield 36, 3) := by decide +kernel
theorem dX7_refresh_34 : decode cX7_refresh 34 = .ok (.invokevirtual 254, 3) := by decide +kernel
theorem dX7_refresh_37 : decode cX7_refresh 37 = .ok (.aload_n 0, 1) := by decide +kernel
theorem dX7_refresh_38 : decode cX7_refresh 38 = .ok (.iconst 0, 1) := by decide +kernel
theorem dX7_refresh_39 : decode cX7_refresh 39 = .ok (.putfield 68, 3) := by decide +kernel
theorem dX7_refresh_42 : decode cX7_refresh 42 = .ok (.return_, 1) := by decide +kernel
theorem dX7_numberOf_0 : decode cX7_numberOf 0 = .ok (.iload_n 1, 1) := by decide +kernel
theorem dX7_numberOf_1 : decode cX7_numberOf 1 = .ok (.tableswitch 87 0 7 #[47, 55, 87, 87, 87, 63, 71, 79], 47) := by decide +kernel
theorem dX7_numberOf_48 : decode cX7_numberOf 48 = .ok (.aload_n 0, 1) := by decide +kernel
theorem dX7_numberOf_49 : decode cX7_numberOf 49 = .ok (.getfield 10, 3) := by decide +kernel
theorem dX7_numberOf_52 : decode cX7_numberOf 52 = .ok (.getfield 258, 3) := by decide +kernel
theorem dX7_numberOf_55 : decode cX7_numberOf 55 = .ok (.ireturn, 1) := by decide +kernel
theorem dX7_numberOf_56 : decode cX7_numberOf 56 = .ok (.aload_n 0, 1) := by decide +kernel
theorem dX7_numberOf_57 : decode cX7_numberOf 57 = .ok (.getfield 10, 3) := by decide +kernel
theorem dX7_numberOf_60 : decode cX7_numberOf 60 = .ok (.getfield 261, 3) := by decide +kernel
theorem dX7_numberOf_63 : decode cX7_numberOf 63 = .ok (.ireturn, 1) := by decide +kernel
theorem dX7_numberOf_64 : decode cX7_numberOf 64 = .ok (.aload_n 0, 1) := by decide +kernel
theorem dX7_numberOf_65 : decode cX7_numberOf 65 = .ok (.getfield 10, 3) := by decide +kernel
theorem dX7_numberOf_68 : decode cX7_numberOf 68 = .ok (.invokevirtual 264, 3) := by decide +kernel
theorem dX7_numberOf_71 : decode cX7_numberOf 71 = .ok (.ireturn, 1) := by decide +kernel
theorem dX7_numberOf_72 : decode cX7_numberOf 72 = .ok (.aload_n 0, 1) := by decide +kernel
theorem dX7_numberOf_73 : decode cX7_numberOf 73 = .ok (.getfield 10, 3) := by decide +kernel
theorem dX7_numberOf_76 : decode cX7_numberOf 76 = .ok (.invokevirtual 267, 3) := by decide +kernel
theorem dX7_numberOf_79 : decode cX7_numberOf 79 = .ok (.ireturn, 1) := by decide +kernel
theorem dX7_numberOf_80 : decode cX7_numberOf 80 = .ok (.aload_n 0, 1) := by decide +kernel
theorem dX7_numberOf_81 : decode cX7_numberOf 81 = .ok (.getfield 22, 3) := by decide +kernel
theorem dX7_numberOf_84 : decode cX7_numberOf 84 = .ok (.getfield 118, 3) := by decide +kernel
theorem dX7_numberOf_87 : decode cX7_numberOf 87 = .ok (.ireturn, 1) := by decide +kernel
theorem dX7_numberOf_88 : decode cX7_numberOf 88 = .ok (.aload_n 0, 1) := by decide +kernel
theorem dX7_numberOf_89 : decode cX7_numberOf 89 = .ok (.getfield 36, 3) := by decide +kernel
theorem dX7_numberOf_92 : decode cX7_numberOf 92 = .ok (.iload_n 1, 1) := by decide +kernel
theorem dX7_numberOf_93 : decode cX7_numberOf 93 = .ok (.invokevirtual 235, 3) := by decide +kernel
theorem dX7_numberOf_96 : decode cX7_numberOf 96 = .ok (.ireturn, 1) := by decide +kernel
theorem dX7_lossBy_0 : decode cX7_lossBy 0 = .ok (.aload_n 0, 1) := by decide +kernel
theorem dX7_lossBy_1 : decode cX7_lossBy 1 = .ok (.getfield 53, 3) := by decide +kernel
theorem dX7_lossBy_4 : decode cX7_lossBy 4 = .ok (.aload_n 0, 1) := by decide +kernel
theorem dX7_lossBy_5 : decode cX7_lossBy 5 = .ok (.getfield 36, 3) := by decide +kernel
theorem dX7_lossBy_8 : decode cX7_lossBy 8 = .ok (.aload_n 0, 1) := by decide +kernel
theorem dX7_lossBy_9 : decode cX7_lossBy 9 = .ok (.getfield 46, 3) := by decide +kernel
theorem dX7_lossBy_12 : decode cX7_lossBy 12 = .ok (.getfield 151, 3) := by decide +kernel
theorem dX7_lossBy_15 : decode cX7_lossBy 15 = .ok (.iload_n 1, 1) := by decide +kernel
theorem dX7_lossBy_16 : decode cX7_lossBy 16 = .ok (.aaload, 1) := by decide +kernel
theorem dX7_lossBy_17 : decode cX7_lossBy 17 = .ok (.iload_n 2, 1) := by decide +kernel
theorem dX7_lossBy_18 : decode cX7_lossBy 18 = .ok (.iload_n 3, 1) := by decide +kernel
theorem dX7_lossBy_19 : decode cX7_lossBy 19 = .ok (.invokevirtual 190, 3) := by decide +kernel
theorem dX7_lossBy_22 : decode cX7_lossBy 22 = .ok (.aload_n 0, 1) := by decide +kernel
theorem dX7_lossBy_23 : decode cX7_lossBy 23 = .ok (.getfield 53, 3) := by decide +kernel
theorem dX7_lossBy_26 : decode cX7_lossBy 26 = .ok (.aload_n 0, 1) := by decide +kernel
theorem dX7_lossBy_27 : decode cX7_lossBy 27 = .ok (.getfield 36, 3) := by decide +kernel
theorem dX7_lossBy_30 : decode cX7_lossBy 30 = .ok (.invokevirtual 270, 3) := by decide +kernel
theorem dX7_lossBy_33 : decode cX7_lossBy 33 = .ok (.ireturn, 1) := by decide +kernel
theorem dX7_repaint_0 : decode cX7_repaint 0 = .ok (.aload_n 0, 1) := by decide +kernel
theorem dX7_repaint_1 : decode cX7_repaint 1 = .ok (.getfield 22, 3) := by decide +kernel
theorem dX7_repaint_4 : decode cX7_repaint 4 = .ok (.aload_n 0, 1) := by decide +kernel
theorem dX7_repaint_5 : decode cX7_repaint 5 = .ok (.getfield 10, 3) := by decide +kernel
theorem dX7_repaint_8 : decode cX7_repaint 8 = .ok (.invokevirtual 79, 3) := by decide +kernel
theorem dX7_repaint_11 : decode cX7_repaint 11 = .ok (.iconst 0, 1) := by decide +kernel
theorem dX7_repaint_12 : decode cX7_repaint 12 = .ok (.istore_n 1, 1) := by decide +kernel
theorem dX7_repaint_13 : decode cX7_repaint 13 = .ok (.iload_n 1, 1) := by decide +kernel
theorem dX7_repaint_14 : decode cX7_repaint 14 = .ok (.aload_n 0, 1) := by decide +kernel
theorem dX7_repaint_15 : decode cX7_repaint 15 = .ok (.getfield 10, 3) := by decide +kernel
theorem dX7_repaint_18 : decode cX7_repaint 18 = .ok (.invokevirtual 75, 3) := by decide +kernel
theorem dX7_repaint_21 : decode cX7_repaint 21 = .ok (.if_icmp .ge 42, 3) := by decide +kernel
theorem dX7_repaint_24 : decode cX7_repaint 24 = .ok (.aload_n 0, 1) := by decide +kernel
theorem dX7_repaint_25 : decode cX7_repaint 25 = .ok (.getfield 10, 3) := by decide +kernel
theorem dX7_repaint_28 : decode cX7_repaint 28 = .ok (.getfield 95, 3) := by decide +kernel
theorem dX7_repaint_31 : decode cX7_repaint 31 = .ok (.iload_n 1, 1) := by decide +kernel
theorem dX7_repaint_32 : decode cX7_repaint 32 = .ok (.aload_n 0, 1) := by decide +kernel
theorem dX7_repaint_33 : decode cX7_repaint 33 = .ok (.getfield 53, 3) := by decide +kernel
theorem dX7_repaint_36 : decode cX7_repaint 36 = .ok (.getfield 198, 3) := by decide +kernel
theorem dX7_repaint_39 : decode cX7_repaint 39 = .ok (.aload_n 0, 1) := by decide +kernel
theorem dX7_repaint_40 : decode cX7_repaint 40 = .ok (.getfield 36, 3) := by decide +kernel
theorem dX7_repaint_43 : decode cX7_repaint 43 = .ok (.getfield 145, 3) := by decide +kernel
theorem dX7_repaint_46 : decode cX7_repaint 46 = .ok (.iload_n 1, 1) := by decide +kernel
theorem dX7_repaint_47 : decode cX7_repaint 47 = .ok (.iaload, 1) := by decide +kernel
theorem dX7_repaint_48 : decode cX7_repaint 48 = .ok (.iaload, 1) := by decide +kernel
theorem dX7_repaint_49 : decode cX7_repaint 49 = .ok (.aload_n 0, 1) := by decide +kernel
theorem dX7_repaint_50 : decode cX7_repaint 50 = .ok (.getfield 61, 3) := by decide +kernel
theorem dX7_repaint_53 : decode cX7_repaint 53 = .ok (.invokestatic 201, 3) := by decide +kernel
theorem dX7_repaint_56 : decode cX7_repaint 56 = .ok (.iastore, 1) := by decide +kernel
theorem dX7_repaint_57 : decode cX7_repaint 57 = .ok (.iinc 1 1, 3) := by decide +kernel
theorem dX7_repaint_60 : decode cX7_repaint 60 = .ok (.goto (-47), 3) := by decide +kernel
theorem dX7_repaint_63 : decode cX7_repaint 63 = .ok (.aload_n 0, 1) := by decide +kernel
theorem dX7_repaint_64 : decode cX7_repaint 64 = .ok (.iconst 1, 1) := by decide +kernel
theorem dX7_repaint_65 : decode cX7_repaint 65 = .ok (.putfield 68, 3) := by decide +kernel
theorem dX7_repaint_68 : decode cX7_repaint 68 = .ok (.aload_n 0, 1) := by decide +kernel
theorem dX7_repaint_69 : decode cX7_repaint 69 = .ok (.getfield 53, 3) := by decide +kernel
theorem dX7_repaint_72 : decode cX7_repaint 72 = .ok (.aload_n 0, 1) := by decide +kernel
theorem dX7_repaint_73 : decode cX7_repaint 73 = .ok (.getfield 36, 3) := by decide +kernel
theorem dX7_repaint_76 : decode cX7_repaint 76 = .ok (.invokevirtual 274, 3) := by decide +kernel
theorem dX7_repaint_79 : decode cX7_repaint 79 = .ok (.ireturn, 1) := by decide +kernel
theorem dX7_turned_0 : decode cX7_turned 0 = .ok (.iload_n 1, 1) := by decide +kernel
theorem dX7_turned_1 : decode cX7_turned 1 = .ok (.ifCond .eq 10, 3) := by decide +kernel
theorem dX7_turned_4 : decode cX7_turned 4 = .ok (.bipush 15, 2) := by decide +kernel
theorem dX7_turned_6 : decode cX7_turned 6 = .ok (.iload_n 0, 1) := by decide +kernel
theorem dX7_turned_7 : decode cX7_turned 7 = .ok (.isub, 1) := by decide +kernel
theorem dX7_turned_8 : decode cX7_turned 8 = .ok (.goto 4, 3) := by decide +kernel
theorem dX7_turned_11 : decode cX7_turned 11 = .ok (.iload_n 0, 1) := by decide +kernel
theorem dX7_turned_12 : decode cX7_turned 12 = .ok (.ireturn, 1) := by decide +kernel
theorem dX7_isLevel_0 : decode cX7_isLevel 0 = .ok (.iload_n 0, 1) := by decide +kernel
theorem dX7_isLevel_1 : decode cX7_isLevel 1 = .ok (.ifCond .lt 13, 3) := by decide +kernel
theorem dX7_isLevel_4 : decode cX7_isLevel 4 = .ok (.iload_n 0, 1) := by decide +kernel
theorem dX7_isLevel_5 : decode cX7_isLevel 5 = .ok (.bipush 15, 2) := by decide +kernel
theorem dX7_isLevel_7 : decode cX7_isLevel 7 = .ok (.if_icmp .gt 7, 3) := by decide +kernel
theorem dX7_isLevel_10 : decode cX7_isLevel 10 = .ok (.iconst 1, 1) := by decide +kernel
theorem dX7_isLevel_11 : decode cX7_isLevel 11 = .ok (.goto 4, 3) := by decide +kernel
theorem dX7_isLevel_14 : decode cX7_isLevel 14 = .ok (.iconst 0, 1) := by decide +kernel
theorem dX7_isLevel_15 : decode cX7_isLevel 15 = .ok (.ireturn, 1) := by decide +kernel
theorem dX7_isFilterAttribute_0 : decode cX7_isFilterAttribute 0 = .ok (.iload_n 0, 1) := by decide +kernel
theorem dX7_isFilterAttribute_1 : decode cX7_isFilterAttribute 1 = .ok (.iconst 1, 1) := by decide +kernel
theorem dX7_isFilterAttribute_2 : decode cX7_isFilterAttribute 2 = .ok (.if_icmp .eq 14, 3) := by decide +kernel
theorem dX7_isFilterAttribute_5 : decode cX7_isFilterAttribute 5 = .ok (.iload_n 0, 1) := by decide +kernel
theorem dX7_isFilterAttribute_6 : decode cX7_isFilterAttribute 6 = .ok (.iconst 5, 1) := by decide +kernel
theorem dX7_isFilterAttribute_7 : decode cX7_isFilterAttribute 7 = .ok (.if_icmp .lt 13, 3) := by decide +kernel
theorem dX7_isFilterAttribute_10 : decode cX7_isFilterAttribute 10 = .ok (.iload_n 0, 1) := by decide +kernel
theorem dX7_isFilterAttribute_11 : decode cX7_isFilterAttribute 11 = .ok (.bipush 11, 2) := by decide +kernel
theorem dX7_isFilterAttribute_13 : decode cX7_isFilterAttribute 13 = .ok (.if_icmp .gt 7, 3) := by decide +kernel
theorem dX7_isFilterAttribute_16 : decode cX7_isFilterAttribute 16 = .ok (.iconst 1, 1) := by decide +kernel
theorem dX7_isFilterAttribute_17 : decode cX7_isFilterAttribute 17 = .ok (.goto 4, 3) := by decide +kernel
theorem dX7_isFilterAttribute_20 : decode cX7_isFilterAttribute 20 = .ok (.iconst 0, 1) := by decide +kernel
theorem dX7_isFilterAttribute_21 : decode cX7_isFilterAttribute 21 = .ok (.ireturn, 1) := by decide +kernel
theorem dX7_needFilter_0 : decode cX7_needFilter 0 = .ok (.iload_n 0, 1) := by decide +kernel
theorem dX7_needFilter_1 : decode cX7_needFilter 1 = .ok (.invokestatic 211, 3) := by decide +kernel
theorem dX7_needFilter_4 : decode cX7_needFilter 4 = .ok (.invokestatic 71, 3) := by decide +kernel
theorem dX7_needFilter_7 : decode cX7_needFilter 7 = .ok (.iload_n 1, 1) := by decide +kernel
theorem dX7_needFilter_8 : decode cX7_needFilter 8 = .ok (.ifCond .lt 14, 3) := by decide +kernel
theorem dX7_needFilter_11 : decode cX7_needFilter 11 = .ok (.iload_n 1, 1) := by decide +kernel
theorem dX7_needFilter_12 : decode cX7_needFilter 12 = .ok (.sipush 999, 3) := by decide +kernel
theorem dX7_needFilter_15 : decode cX7_needFilter 15 = .ok (.if_icmp .gt 7, 3) := by decide +kernel
theorem dX7_needFilter_18 : decode cX7_needFilter 18 = .ok (.iconst 1, 1) := by decide +kernel
theorem dX7_needFilter_19 : decode cX7_needFilter 19 = .ok (.goto 4, 3) := by decide +kernel
theorem dX7_needFilter_22 : decode cX7_needFilter 22 = .ok (.iconst 0, 1) := by decide +kernel
theorem dX7_needFilter_23 : decode cX7_needFilter 23 = .ok (.invokestatic 71, 3) := by decide +kernel
theorem dX7_needFilter_26 : decode cX7_needFilter 26 = .ok (.iload_n 2, 1) := by decide +kernel
theorem dX7_needFilter_27 : decode cX7_needFilter 27 = .ok (.ifCond .lt 12, 3) := by decide +kernel
theorem dX7_needFilter_30 : decode cX7_needFilter 30 = .ok (.iload_n 2, 1) := by decide +kernel
theorem dX7_needFilter_31 : decode cX7_needFilter 31 = .ok (.iconst 3, 1) := by decide +kernel
theorem dX7_needFilter_32 : decode cX7_needFilter 32 = .ok (.if_icmp .gt 7, 3) := by decide +kernel
theorem dX7_needFilter_35 : decode cX7_needFilter 35 = .ok (.iconst 1, 1) := by decide +kernel
theorem dX7_needFilter_36 : decode cX7_needFilter 36 = .ok (.goto 4, 3) := by decide +kernel
theorem dX7_needFilter_39 : decode cX7_needFilter 39 = .ok (.iconst 0, 1) := by decide +kernel
theorem dX7_needFilter_40 : decode cX7_needFilter 40 = .ok (.invokestatic 71, 3) := by decide +kernel
theorem dX7_needFilter_43 : decode cX7_needFilter 43 = .ok (.return_, 1) := by decide +kernel
theorem dX7_needPixel_0 : decode cX7_needPixel 0 = .ok (.iload_n 1, 1) := by decide +kernel
theorem dX7_needPixel_1 : decode cX7_needPixel 1 = .ok (.aload_n 0, 1) := by decide +kernel
theorem dX7_needPixel_2 : decode cX7_needPixel 2 = .ok (.getfield 10, 3) := by decide +kernel
theorem dX7_needPixel_5 : decode cX7_needPixel 5 = .ok (.invokevirtual 75, 3) := by decide +kernel
theorem dX7_needPixel_8 : decode cX7_needPixel 8 = .ok (.invokestatic 165, 3) := by decide +kernel
theorem dX7_needPixel_11 : decode cX7_needPixel 11 = .ok (.return_, 1) := by decide +kernel
theorem dX7_needNode_0 : decode cX7_needNode 0 = .ok (.iload_n 1, 1) := by decide +kernel
theorem dX7_needNode_1 : decode cX7_needNode 1 = .ok (.aload_n 0, 1) := by decide +kernel
theorem dX7_needNode_2 : decode cX7_needNode 2 = .ok (.getfield 36, 3) := by decide +kernel
theorem dX7_needNode_5 : decode cX7_needNode 5 = .ok (.getfield 105, 3) := by decide +kernel
theorem dX7_needNode_8 : decode cX7_needNode 8 = .ok (.invokestatic 165, 3) := by decide +kernel
theorem dX7_needNode_11 : decode cX7_needNode 11 = .ok (.return_, 1) := by decide +kernel
theorem dX7_needIndex_0 : decode cX7_needIndex 0 = .ok (.iload_n 0, 1) := by decide +kernel
theorem dX7_needIndex_1 : decode cX7_needIndex 1 = .ok (.ifCond .lt 8, 3) := by decide +kernel
theorem dX7_needIndex_4 : decode cX7_needIndex 4 = .ok (.iload_n 0, 1) := by decide +kernel
theorem dX7_needIndex_5 : decode cX7_needIndex 5 = .ok (.iload_n 1, 1) := by decide +kernel
theorem dX7_needIndex_6 : decode cX7_needIndex 6 = .ok (.if_icmp .lt 14, 3) := by decide +kernel
theorem dX7_needIndex_9 : decode cX7_needIndex 9 = .ok (.new 277, 3) := by decide +kernel
theorem dX7_needIndex_12 : decode cX7_needIndex 12 = .ok (.dup, 1) := by decide +kernel
theorem dX7_needIndex_13 : decode cX7_needIndex 13 = .ok (.ldc_w 279, 3) := by decide +kernel
theorem dX7_needIndex_16 : decode cX7_needIndex 16 = .ok (.invokespecial 281, 3) := by decide +kernel
theorem dX7_needIndex_19 : decode cX7_needIndex 19 = .ok (.athrow, 1) := by decide +kernel
theorem dX7_needIndex_20 : decode cX7_needIndex 20 = .ok (.return_, 1) := by decide +kernel
theorem dX7_needArgument_0 : decode cX7_needArgument 0 = .ok (.iload_n 0, 1) := by decide +kernel
theorem dX7_needArgument_1 : decode cX7_needArgument 1 = .ok (.ifCond .ne 14, 3) := by decide +kernel
theorem dX7_needArgument_4 : decode cX7_needArgument 4 = .ok (.new 284, 3) := by decide +kernel
theorem dX7_needArgument_7 : decode cX7_needArgument 7 = .ok (.dup, 1) := by decide +kernel
theorem dX7_needArgument_8 : decode cX7_needArgument 8 = .ok (.ldc_w 286, 3) := by decide +kernel
theorem dX7_needArgument_11 : decode cX7_needArgument 11 = .ok (.invokespecial 288, 3) := by decide +kernel
theorem dX7_needArgument_14 : decode cX7_needArgument 14 = .ok (.athrow, 1) := by decide +kernel
theorem dX7_needArgument_15 : decode cX7_needArgument 15 = .ok (.return_, 1) := by decide +kernel
theorem dX7_needState_0 : decode cX7_needState 0 = .ok (.iload_n 0, 1) := by decide +kernel
theorem dX7_needState_1 : decode cX7_needState 1 = .ok (.ifCond .ne 14, 3) := by decide +kernel
theorem dX7_needState_4 : decode cX7_needState 4 = .ok (.new 289, 3) := by decide +kernel
theorem dX7_needState_7 : decode cX7_needState 7 = .ok (.dup, 1) := by decide +kernel
theorem dX7_needState_8 : decode cX7_needState 8 = .ok (.ldc_w 291, 3) := by decide +kernel
theorem dX7_needState_11 : decode cX7_needState 11 = .ok (.invokespecial 293, 3) := by decide +kernel
theorem dX7_needState_14 : decode cX7_needState 14 = .ok (.athrow, 1) := by decide +kernel
theorem dX7_needState_15 : decode cX7_needState 15 = .ok (.return_, 1) := by decide +kernel
