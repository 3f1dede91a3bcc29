theorem dX8_init_0 : decode cX8_init 0 = .ok (.aload_n 0, 1) := by decide +kernel
theorem dX8_init_1 : decode cX8_init 1 = .ok (.invokespecial 1, 3) := by decide +kernel
theorem dX8_init_4 : decode cX8_init 4 = .ok (.aload_n 0, 1) := by decide +kernel
theorem dX8_init_5 : decode cX8_init 5 = .ok (.iconst 1, 1) := by decide +kernel
theorem dX8_init_6 : decode cX8_init 6 = .ok (.putfield 7, 3) := by decide +kernel
theorem dX8_init_9 : decode cX8_init 9 = .ok (.aload_n 0, 1) := by decide +kernel
theorem dX8_init_10 : decode cX8_init 10 = .ok (.iconst 1, 1) := by decide +kernel
theorem dX8_init_11 : decode cX8_init 11 = .ok (.putfield 13, 3) := by decide +kernel
theorem dX8_init_14 : decode cX8_init 14 = .ok (.aload_n 0, 1) := by decide +kernel
theorem dX8_init_15 : decode cX8_init 15 = .ok (.bipush 64, 2) := by decide +kernel
theorem dX8_init_17 : decode cX8_init 17 = .ok (.newarray .int, 2) := by decide +kernel
theorem dX8_init_19 : decode cX8_init 19 = .ok (.putfield 16, 3) := by decide +kernel
theorem dX8_init_22 : decode cX8_init 22 = .ok (.aload_n 0, 1) := by decide +kernel
theorem dX8_init_23 : decode cX8_init 23 = .ok (.bipush 64, 2) := by decide +kernel
theorem dX8_init_25 : decode cX8_init 25 = .ok (.newarray .int, 2) := by decide +kernel
theorem dX8_init_27 : decode cX8_init 27 = .ok (.putfield 20, 3) := by decide +kernel
theorem dX8_init_30 : decode cX8_init 30 = .ok (.aload_n 0, 1) := by decide +kernel
theorem dX8_init_31 : decode cX8_init 31 = .ok (.bipush 16, 2) := by decide +kernel
theorem dX8_init_33 : decode cX8_init 33 = .ok (.newarray .int, 2) := by decide +kernel
theorem dX8_init_35 : decode cX8_init 35 = .ok (.putfield 23, 3) := by decide +kernel
theorem dX8_init_38 : decode cX8_init 38 = .ok (.aload_n 0, 1) := by decide +kernel
theorem dX8_init_39 : decode cX8_init 39 = .ok (.sipush 512, 3) := by decide +kernel
theorem dX8_init_42 : decode cX8_init 42 = .ok (.newarray .int, 2) := by decide +kernel
theorem dX8_init_44 : decode cX8_init 44 = .ok (.putfield 26, 3) := by decide +kernel
theorem dX8_init_47 : decode cX8_init 47 = .ok (.aload_n 0, 1) := by decide +kernel
theorem dX8_init_48 : decode cX8_init 48 = .ok (.sipush 512, 3) := by decide +kernel
theorem dX8_init_51 : decode cX8_init 51 = .ok (.newarray .int, 2) := by decide +kernel
theorem dX8_init_53 : decode cX8_init 53 = .ok (.putfield 29, 3) := by decide +kernel
theorem dX8_init_56 : decode cX8_init 56 = .ok (.aload_n 0, 1) := by decide +kernel
theorem dX8_init_57 : decode cX8_init 57 = .ok (.bipush 72, 2) := by decide +kernel
theorem dX8_init_59 : decode cX8_init 59 = .ok (.newarray .int, 2) := by decide +kernel
theorem dX8_init_61 : decode cX8_init 61 = .ok (.putfield 32, 3) := by decide +kernel
theorem dX8_init_64 : decode cX8_init 64 = .ok (.aload_n 0, 1) := by decide +kernel
theorem dX8_init_65 : decode cX8_init 65 = .ok (.bipush 64, 2) := by decide +kernel
theorem dX8_init_67 : decode cX8_init 67 = .ok (.newarray .int, 2) := by decide +kernel
theorem dX8_init_69 : decode cX8_init 69 = .ok (.putfield 35, 3) := by decide +kernel
theorem dX8_init_72 : decode cX8_init 72 = .ok (.aload_n 0, 1) := by decide +kernel
theorem dX8_init_73 : decode cX8_init 73 = .ok (.bipush 64, 2) := by decide +kernel
theorem dX8_init_75 : decode cX8_init 75 = .ok (.newarray .long, 2) := by decide +kernel
theorem dX8_init_77 : decode cX8_init 77 = .ok (.putfield 38, 3) := by decide +kernel
theorem dX8_init_80 : decode cX8_init 80 = .ok (.aload_n 0, 1) := by decide +kernel
theorem dX8_init_81 : decode cX8_init 81 = .ok (.bipush 64, 2) := by decide +kernel
theorem dX8_init_83 : decode cX8_init 83 = .ok (.newarray .int, 2) := by decide +kernel
theorem dX8_init_85 : decode cX8_init 85 = .ok (.putfield 42, 3) := by decide +kernel
theorem dX8_init_88 : decode cX8_init 88 = .ok (.aload_n 0, 1) := by decide +kernel
theorem dX8_init_89 : decode cX8_init 89 = .ok (.bipush 64, 2) := by decide +kernel
theorem dX8_init_91 : decode cX8_init 91 = .ok (.newarray .int, 2) := by decide +kernel
theorem dX8_init_93 : decode cX8_init 93 = .ok (.putfield 45, 3) := by decide +kernel
theorem dX8_init_96 : decode cX8_init 96 = .ok (.aload_n 0, 1) := by decide +kernel
theorem dX8_init_97 : decode cX8_init 97 = .ok (.bipush 64, 2) := by decide +kernel
theorem dX8_init_99 : decode cX8_init 99 = .ok (.newarray .int, 2) := by decide +kernel
theorem dX8_init_101 : decode cX8_init 101 = .ok (.putfield 48, 3) := by decide +kernel
theorem dX8_init_104 : decode cX8_init 104 = .ok (.aload_n 0, 1) := by decide +kernel
theorem dX8_init_105 : decode cX8_init 105 = .ok (.bipush 64, 2) := by decide +kernel
theorem dX8_init_107 : decode cX8_init 107 = .ok (.newarray .int, 2) := by decide +kernel
theorem dX8_init_109 : decode cX8_init 109 = .ok (.putfield 51, 3) := by decide +kernel
theorem dX8_init_112 : decode cX8_init 112 = .ok (.aload_n 0, 1) := by decide +kernel
theorem dX8_init_113 : decode cX8_init 113 = .ok (.bipush 64, 2) := by decide +kernel
theorem dX8_init_115 : decode cX8_init 115 = .ok (.newarray .int, 2) := by decide +kernel
theorem dX8_init_117 : decode cX8_init 117 = .ok (.putfield 54, 3) := by decide +kernel
theorem dX8_init_120 : decode cX8_init 120 = .ok (.aload_n 0, 1) := by decide +kernel
theorem dX8_init_121 : decode cX8_init 121 = .ok (.bipush 64, 2) := by decide +kernel
theorem dX8_init_123 : decode cX8_init 123 = .ok (.newarray .int, 2) := by decide +kernel
theorem dX8_init_125 : decode cX8_init 125 = .ok (.putfield 57, 3) := by decide +kernel
theorem dX8_init_128 : decode cX8_init 128 = .ok (.aload_n 0, 1) := by decide +kernel
theorem dX8_init_129 : decode cX8_init 129 = .ok (.bipush 64, 2) := by decide +kernel
theorem dX8_init_131 : decode cX8_init 131 = .ok (.newarray .int, 2) := by decide +kernel
theorem dX8_init_133 : decode cX8_init 133 = .ok (.putfield 60, 3) := by decide +kernel
theorem dX8_init_136 : decode cX8_init 136 = .ok (.aload_n 0, 1) := by decide +kernel
theorem dX8_init_137 : decode cX8_init 137 = .ok (.bipush 64, 2) := by decide +kernel
theorem dX8_init_139 : decode cX8_init 139 = .ok (.newarray .boolean, 2) := by decide +kernel
theorem dX8_init_141 : decode cX8_init 141 = .ok (.putfield 63, 3) := by decide +kernel
theorem dX8_init_144 : decode cX8_init 144 = .ok (.aload_n 0, 1) := by decide +kernel
theorem dX8_init_145 : decode cX8_init 145 = .ok (.bipush 64, 2) := by decide +kernel
theorem dX8_init_147 : decode cX8_init 147 = .ok (.newarray .int, 2) := by decide +kernel
theorem dX8_init_149 : decode cX8_init 149 = .ok (.putfield 67, 3) := by decide +kernel
theorem dX8_init_152 : decode cX8_init 152 = .ok (.aload_n 0, 1) := by decide +kernel
theorem dX8_init_153 : decode cX8_init 153 = .ok (.bipush 64, 2) := by decide +kernel
theorem dX8_init_155 : decode cX8_init 155 = .ok (.newarray .int, 2) := by decide +kernel
theorem dX8_init_157 : decode cX8_init 157 = .ok (.putfield 70, 3) := by decide +kernel
theorem dX8_init_160 : decode cX8_init 160 = .ok (.return_, 1) := by decide +kernel
theorem dX8_thrown_0 : decode cX8_thrown 0 = .ok (.aload_n 0, 1) := by decide +kernel
theorem dX8_thrown_1 : decode cX8_thrown 1 = .ok (.getfield 73, 3) := by decide +kernel
theorem dX8_thrown_4 : decode cX8_thrown 4 = .ok (.ireturn, 1) := by decide +kernel
theorem dX8_within_0 : decode cX8_within 0 = .ok (.iload_n 0, 1) := by decide +kernel
theorem dX8_within_1 : decode cX8_within 1 = .ok (.iload_n 1, 1) := by decide +kernel
theorem dX8_within_2 : decode cX8_within 2 = .ok (.if_icmp .lt 12, 3) := by decide +kernel
theorem dX8_within_5 : decode cX8_within 5 = .ok (.iload_n 0, 1) := by decide +kernel
theorem dX8_within_6 : decode cX8_within 6 = .ok (.iload_n 2, 1) := by decide +kernel
theorem dX8_within_7 : decode cX8_within 7 = .ok (.if_icmp .gt 7, 3) := by decide +kernel
theorem dX8_within_10 : decode cX8_within 10 = .ok (.iconst 1, 1) := by decide +kernel
theorem dX8_within_11 : decode cX8_within 11 = .ok (.goto 4, 3) := by decide +kernel
theorem dX8_within_14 : decode cX8_within 14 = .ok (.iconst 0, 1) := by decide +kernel
theorem dX8_within_15 : decode cX8_within 15 = .ok (.ireturn, 1) := by decide +kernel
theorem dX8_apart_0 : decode cX8_apart 0 = .ok (.iload_n 0, 1) := by decide +kernel
theorem dX8_apart_1 : decode cX8_apart 1 = .ok (.iload_n 1, 1) := by decide +kernel
theorem dX8_apart_2 : decode cX8_apart 2 = .ok (.if_icmp .le 9, 3) := by decide +kernel
theorem dX8_apart_5 : decode cX8_apart 5 = .ok (.iload_n 0, 1) := by decide +kernel
theorem dX8_apart_6 : decode cX8_apart 6 = .ok (.iload_n 1, 1) := by decide +kernel
theorem dX8_apart_7 : decode cX8_apart 7 = .ok (.isub, 1) := by decide +kernel
theorem dX8_apart_8 : decode cX8_apart 8 = .ok (.goto 6, 3) := by decide +kernel
theorem dX8_apart_11 : decode cX8_apart 11 = .ok (.iload_n 1, 1) := by decide +kernel
theorem dX8_apart_12 : decode cX8_apart 12 = .ok (.iload_n 0, 1) := by decide +kernel
theorem dX8_apart_13 : decode cX8_apart 13 = .ok (.isub, 1) := by decide +kernel
theorem dX8_apart_14 : decode cX8_apart 14 = .ok (.ireturn, 1) := by decide +kernel
theorem dX8_greater_0 : decode cX8_greater 0 = .ok (.iload_n 0, 1) := by decide +kernel
theorem dX8_greater_1 : decode cX8_greater 1 = .ok (.iload_n 1, 1) := by decide +kernel
theorem dX8_greater_2 : decode cX8_greater 2 = .ok (.if_icmp .le 7, 3) := by decide +kernel
theorem dX8_greater_5 : decode cX8_greater 5 = .ok (.iload_n 0, 1) := by decide +kernel
theorem dX8_greater_6 : decode cX8_greater 6 = .ok (.goto 4, 3) := by decide +kernel
theorem dX8_greater_9 : decode cX8_greater 9 = .ok (.iload_n 1, 1) := by decide +kernel
theorem dX8_greater_10 : decode cX8_greater 10 = .ok (.ireturn, 1) := by decide +kernel
theorem dX8_pixels_0 : decode cX8_pixels 0 = .ok (.aload_n 0, 1) := by decide +kernel
theorem dX8_pixels_1 : decode cX8_pixels 1 = .ok (.getfield 7, 3) := by decide +kernel
theorem dX8_pixels_4 : decode cX8_pixels 4 = .ok (.aload_n 0, 1) := by decide +kernel
theorem dX8_pixels_5 : decode cX8_pixels 5 = .ok (.getfield 13, 3) := by decide +kernel
theorem dX8_pixels_8 : decode cX8_pixels 8 = .ok (.imul, 1) := by decide +kernel
theorem dX8_pixels_9 : decode cX8_pixels 9 = .ok (.ireturn, 1) := by decide +kernel
theorem dX8_isPixel_0 : decode cX8_isPixel 0 = .ok (.iload_n 1, 1) := by decide +kernel
theorem dX8_isPixel_1 : decode cX8_isPixel 1 = .ok (.iconst 0, 1) := by decide +kernel
theorem dX8_isPixel_2 : decode cX8_isPixel 2 = .ok (.aload_n 0, 1) := by decide +kernel
theorem dX8_isPixel_3 : decode cX8_isPixel 3 = .ok (.invokevirtual 76, 3) := by decide +kernel
theorem dX8_isPixel_6 : decode cX8_isPixel 6 = .ok (.iconst 1, 1) := by decide +kernel
theorem dX8_isPixel_7 : decode cX8_isPixel 7 = .ok (.isub, 1) := by decide +kernel
theorem dX8_isPixel_8 : decode cX8_isPixel 8 = .ok (.invokestatic 80, 3) := by decide +kernel
theorem dX8_isPixel_11 : decode cX8_isPixel 11 = .ok (.ireturn, 1) := by decide +kernel
theorem dX8_has_0 : decode cX8_has 0 = .ok (.lload_n 0, 1) := by decide +kernel
theorem dX8_has_1 : decode cX8_has 1 = .ok (.iload_n 2, 1) := by decide +kernel
theorem dX8_has_2 : decode cX8_has 2 = .ok (.lshr, 1) := by decide +kernel
theorem dX8_has_3 : decode cX8_has 3 = .ok (.lconst 1, 1) := by decide +kernel
theorem dX8_has_4 : decode cX8_has 4 = .ok (.land, 1) := by decide +kernel
theorem dX8_has_5 : decode cX8_has 5 = .ok (.lconst 1, 1) := by decide +kernel
theorem dX8_has_6 : decode cX8_has 6 = .ok (.lcmp, 1) := by decide +kernel
theorem dX8_has_7 : decode cX8_has 7 = .ok (.ifCond .ne 7, 3) := by decide +kernel
theorem dX8_has_10 : decode cX8_has 10 = .ok (.iconst 1, 1) := by decide +kernel
theorem dX8_has_11 : decode cX8_has 11 = .ok (.goto 4, 3) := by decide +kernel
theorem dX8_has_14 : decode cX8_has 14 = .ok (.iconst 0, 1) := by decide +kernel
theorem dX8_has_15 : decode cX8_has 15 = .ok (.ireturn, 1) := by decide +kernel
theorem dX8_rankOf_0 : decode cX8_rankOf 0 = .ok (.aload_n 0, 1) := by decide +kernel
theorem dX8_rankOf_1 : decode cX8_rankOf 1 = .ok (.getfield 84, 3) := by decide +kernel
theorem dX8_rankOf_4 : decode cX8_rankOf 4 = .ok (.ifCond .eq 10, 3) := by decide +kernel
theorem dX8_rankOf_7 : decode cX8_rankOf 7 = .ok (.bipush 15, 2) := by decide +kernel
theorem dX8_rankOf_9 : decode cX8_rankOf 9 = .ok (.iload_n 1, 1) := by decide +kernel
theorem dX8_rankOf_10 : decode cX8_rankOf 10 = .ok (.isub, 1) := by decide +kernel
theorem dX8_rankOf_11 : decode cX8_rankOf 11 = .ok (.goto 4, 3) := by decide +kernel
theorem dX8_rankOf_14 : decode cX8_rankOf 14 = .ok (.iload_n 1, 1) := by decide +kernel
theorem dX8_rankOf_15 : decode cX8_rankOf 15 = .ok (.ireturn, 1) := by decide +kernel
theorem dX8_all_0 : decode cX8_all 0 = .ok (.aload_n 0, 1) := by decide +kernel
theorem dX8_all_1 : decode cX8_all 1 = .ok (.invokevirtual 76, 3) := by decide +kernel
theorem dX8_all_4 : decode cX8_all 4 = .ok (.bipush 64, 2) := by decide +kernel
theorem dX8_all_6 : decode cX8_all 6 = .ok (.if_icmp .ne 9, 3) := by decide +kernel
theorem dX8_all_9 : decode cX8_all 9 = .ok (.ldc2_w 88, 3) := by decide +kernel
theorem dX8_all_12 : decode cX8_all 12 = .ok (.goto 11, 3) := by decide +kernel
theorem dX8_all_15 : decode cX8_all 15 = .ok (.lconst 1, 1) := by decide +kernel
theorem dX8_all_16 : decode cX8_all 16 = .ok (.aload_n 0, 1) := by decide +kernel
theorem dX8_all_17 : decode cX8_all 17 = .ok (.invokevirtual 76, 3) := by decide +kernel
theorem dX8_all_20 : decode cX8_all 20 = .ok (.lshl, 1) := by decide +kernel
theorem dX8_all_21 : decode cX8_all 21 = .ok (.lconst 1, 1) := by decide +kernel
theorem dX8_all_22 : decode cX8_all 22 = .ok (.lsub, 1) := by decide +kernel
theorem dX8_all_23 : decode cX8_all 23 = .ok (.lreturn, 1) := by decide +kernel
theorem dX8_copySaved_0 : decode cX8_copySaved 0 = .ok (.aload_n 0, 1) := by decide +kernel
theorem dX8_copySaved_1 : decode cX8_copySaved 1 = .ok (.getfield 23, 3) := by decide +kernel
theorem dX8_copySaved_4 : decode cX8_copySaved 4 = .ok (.iconst 2, 1) := by decide +kernel
theorem dX8_copySaved_5 : decode cX8_copySaved 5 = .ok (.iload_n 1, 1) := by decide +kernel
theorem dX8_copySaved_6 : decode cX8_copySaved 6 = .ok (.imul, 1) := by decide +kernel
theorem dX8_copySaved_7 : decode cX8_copySaved 7 = .ok (.aload_n 0, 1) := by decide +kernel
theorem dX8_copySaved_8 : decode cX8_copySaved 8 = .ok (.getfield 23, 3) := by decide +kernel
theorem dX8_copySaved_11 : decode cX8_copySaved 11 = .ok (.iconst 2, 1) := by decide +kernel
theorem dX8_copySaved_12 : decode cX8_copySaved 12 = .ok (.iload_n 2, 1) := by decide +kernel
theorem dX8_copySaved_13 : decode cX8_copySaved 13 = .ok (.imul, 1) := by decide +kernel
theorem dX8_copySaved_14 : decode cX8_copySaved 14 = .ok (.iaload, 1) := by decide +kernel
theorem dX8_copySaved_15 : decode cX8_copySaved 15 = .ok (.iastore, 1) := by decide +kernel
theorem dX8_copySaved_16 : decode cX8_copySaved 16 = .ok (.aload_n 0, 1) := by decide +kernel
theorem dX8_copySaved_17 : decode cX8_copySaved 17 = .ok (.getfield 23, 3) := by decide +kernel
theorem dX8_copySaved_20 : decode cX8_copySaved 20 = .ok (.iconst 2, 1) := by decide +kernel
theorem dX8_copySaved_21 : decode cX8_copySaved 21 = .ok (.iload_n 1, 1) := by decide +kernel
theorem dX8_copySaved_22 : decode cX8_copySaved 22 = .ok (.imul, 1) := by decide +kernel
theorem dX8_copySaved_23 : decode cX8_copySaved 23 = .ok (.iconst 1, 1) := by decide +kernel
theorem dX8_copySaved_24 : decode cX8_copySaved 24 = .ok (.iadd, 1) := by decide +kernel
theorem dX8_copySaved_25 : decode cX8_copySaved 25 = .ok (.aload_n 0, 1) := by decide +kernel
theorem dX8_copySaved_26 : decode cX8_copySaved 26 = .ok (.getfield 23, 3) := by decide +kernel
theorem dX8_copySaved_29 : decode cX8_copySaved 29 = .ok (.iconst 2, 1) := by decide +kernel
theorem dX8_copySaved_30 : decode cX8_copySaved 30 = .ok (.iload_n 2, 1) := by decide +kernel
theorem dX8_copySaved_31 : decode cX8_copySaved 31 = .ok (.imul, 1) := by decide +kernel
theorem dX8_copySaved_32 : decode cX8_copySaved 32 = .ok (.iconst 1, 1) := by decide +kernel
theorem dX8_copySaved_33 : decode cX8_copySaved 33 = .ok (.iadd, 1) := by decide +kernel
theorem dX8_copySaved_34 : decode cX8_copySaved 34 = .ok (.iaload, 1) := by decide +kernel
theorem dX8_copySaved_35 : decode cX8_copySaved 35 = .ok (.iastore, 1) := by decide +kernel
theorem dX8_copySaved_36 : decode cX8_copySaved 36 = .ok (.iconst 0, 1) := by decide +kernel
theorem dX8_copySaved_37 : decode cX8_copySaved 37 = .ok (.istore_n 3, 1) := by decide +kernel
theorem dX8_copySaved_38 : decode cX8_copySaved 38 = .ok (.iload_n 3, 1) := by decide +kernel
theorem dX8_copySaved_39 : decode cX8_copySaved 39 = .ok (.bipush 64, 2) := by decide +kernel
theorem dX8_copySaved_41 : decode cX8_copySaved 41 = .ok (.if_icmp .ge 53, 3) := by decide +kernel
theorem dX8_copySaved_44 : decode cX8_copySaved 44 = .ok (.aload_n 0, 1) := by decide +kernel
theorem dX8_copySaved_45 : decode cX8_copySaved 45 = .ok (.getfield 26, 3) := by decide +kernel
theorem dX8_copySaved_48 : decode cX8_copySaved 48 = .ok (.bipush 64, 2) := by decide +kernel
theorem dX8_copySaved_50 : decode cX8_copySaved 50 = .ok (.iload_n 1, 1) := by decide +kernel
theorem dX8_copySaved_51 : decode cX8_copySaved 51 = .ok (.imul, 1) := by decide +kernel
theorem dX8_copySaved_52 : decode cX8_copySaved 52 = .ok (.iload_n 3, 1) := by decide +kernel
theorem dX8_copySaved_53 : decode cX8_copySaved 53 = .ok (.iadd, 1) := by decide +kernel
theorem dX8_copySaved_54 : decode cX8_copySaved 54 = .ok (.aload_n 0, 1) := by decide +kernel
theorem dX8_copySaved_55 : decode cX8_copySaved 55 = .ok (.getfield 26, 3) := by decide +kernel
theorem dX8_copySaved_58 : decode cX8_copySaved 58 = .ok (.bipush 64, 2) := by decide +kernel
theorem dX8_copySaved_60 : decode cX8_copySaved 60 = .ok (.iload_n 2, 1) := by decide +kernel
theorem dX8_copySaved_61 : decode cX8_copySaved 61 = .ok (.imul, 1) := by decide +kernel
theorem dX8_copySaved_62 : decode cX8_copySaved 62 = .ok (.iload_n 3, 1) := by decide +kernel
theorem dX8_copySaved_63 : decode cX8_copySaved 63 = .ok (.iadd, 1) := by decide +kernel
theorem dX8_copySaved_64 : decode cX8_copySaved 64 = .ok (.iaload, 1) := by decide +kernel
theorem dX8_copySaved_65 : decode cX8_copySaved 65 = .ok (.iastore, 1) := by decide +kernel
theorem dX8_copySaved_66 : decode cX8_copySaved 66 = .ok (.aload_n 0, 1) := by decide +kernel
theorem dX8_copySaved_67 : decode cX8_copySaved 67 = .ok (.getfield 29, 3) := by decide +kernel
theorem dX8_copySaved_70 : decode cX8_copySaved 70 = .ok (.bipush 64, 2) := by decide +kernel
theorem dX8_copySaved_72 : decode cX8_copySaved 72 = .ok (.iload_n 1, 1) := by decide +kernel
theorem dX8_copySaved_73 : decode cX8_copySaved 73 = .ok (.imul, 1) := by decide +kernel
theorem dX8_copySaved_74 : decode cX8_copySaved 74 = .ok (.iload_n 3, 1) := by decide +kernel
theorem dX8_copySaved_75 : decode cX8_copySaved 75 = .ok (.iadd, 1) := by decide +kernel
theorem dX8_copySaved_76 : decode cX8_copySaved 76 = .ok (.aload_n 0, 1) := by decide +kernel
theorem dX8_copySaved_77 : decode cX8_copySaved 77 = .ok (.getfield 29, 3) := by decide +kernel
theorem dX8_copySaved_80 : decode cX8_copySaved 80 = .ok (.bipush 64, 2) := by decide +kernel
theorem dX8_copySaved_82 : decode cX8_copySaved 82 = .ok (.iload_n 2, 1) := by decide +kernel
theorem dX8_copySaved_83 : decode cX8_copySaved 83 = .ok (.imul, 1) := by decide +kernel
theorem dX8_copySaved_84 : decode cX8_copySaved 84 = .ok (.iload_n 3, 1) := by decide +kernel
theorem dX8_copySaved_85 : decode cX8_copySaved 85 = .ok (.iadd, 1) := by decide +kernel
theorem dX8_copySaved_86 : decode cX8_copySaved 86 = .ok (.iaload, 1) := by decide +kernel
theorem dX8_copySaved_87 : decode cX8_copySaved 87 = .ok (.iastore, 1) := by decide +kernel
theorem dX8_copySaved_88 : decode cX8_copySaved 88 = .ok (.iinc 3 1, 3) := by decide +kernel
theorem dX8_copySaved_91 : decode cX8_copySaved 91 = .ok (.goto (-53), 3) := by decide +kernel
theorem dX8_copySaved_94 : decode cX8_copySaved 94 = .ok (.return_, 1) := by decide +kernel
theorem dX8_save_0 : decode cX8_save 0 = .ok (.aload_n 0, 1) := by decide +kernel
theorem dX8_save_1 : decode cX8_save 1 = .ok (.getfield 90, 3) := by decide +kernel
theorem dX8_save_4 : decode cX8_save 4 = .ok (.bipush 8, 2) := by decide +kernel
theorem dX8_save_6 : decode cX8_save 6 = .ok (.if_icmp .ne 35, 3) := by decide +kernel
theorem dX8_save_9 : decode cX8_save 9 = .ok (.iconst 0, 1) := by decide +kernel
theorem dX8_save_10 : decode cX8_save 10 = .ok (.istore_n 1, 1) := by decide +kernel
theorem dX8_save_11 : decode cX8_save 11 = .ok (.iload_n 1, 1) := by decide +kernel
theorem dX8_save_12 : decode cX8_save 12 = .ok (.bipush 7, 2) := by decide +kernel
theorem dX8_save_14 : decode cX8_save 14 = .ok (.if_icmp .ge 17, 3) := by decide +kernel
theorem dX8_save_17 : decode cX8_save 17 = .ok (.aload_n 0, 1) := by decide +kernel
theorem dX8_save_18 : decode cX8_save 18 = .ok (.iload_n 1, 1) := by decide +kernel
theorem dX8_save_19 : decode cX8_save 19 = .ok (.iload_n 1, 1) := by decide +kernel
theorem dX8_save_20 : decode cX8_save 20 = .ok (.iconst 1, 1) := by decide +kernel
theorem dX8_save_21 : decode cX8_save 21 = .ok (.iadd, 1) := by decide +kernel
theorem dX8_save_22 : decode cX8_save 22 = .ok (.invokevirtual 93, 3) := by decide +kernel
theorem dX8_save_25 : decode cX8_save 25 = .ok (.iinc 1 1, 3) := by decide +kernel
theorem dX8_save_28 : decode cX8_save 28 = .ok (.goto (-17), 3) := by decide +kernel
theorem dX8_save_31 : decode cX8_save 31 = .ok (.aload_n 0, 1) := by decide +kernel
theorem dX8_save_32 : decode cX8_save 32 = .ok (.dup, 1) := by decide +kernel
theorem dX8_save_33 : decode cX8_save 33 = .ok (.getfield 90, 3) := by decide +kernel
theorem dX8_save_36 : decode cX8_save 36 = .ok (.iconst 1, 1) := by decide +kernel
theorem dX8_save_37 : decode cX8_save 37 = .ok (.isub, 1) := by decide +kernel
theorem dX8_save_38 : decode cX8_save 38 = .ok (.putfield 90, 3) := by decide +kernel
theorem dX8_save_41 : decode cX8_save 41 = .ok (.aload_n 0, 1) := by decide +kernel
theorem dX8_save_42 : decode cX8_save 42 = .ok (.getfield 23, 3) := by decide +kernel
theorem dX8_save_45 : decode cX8_save 45 = .ok (.iconst 2, 1) := by decide +kernel
theorem dX8_save_46 : decode cX8_save 46 = .ok (.aload_n 0, 1) := by decide +kernel
theorem dX8_save_47 : decode cX8_save 47 = .ok (.getfield 90, 3) := by decide +kernel
theorem dX8_save_50 : decode cX8_save 50 = .ok (.imul, 1) := by decide +kernel
theorem dX8_save_51 : decode cX8_save 51 = .ok (.aload_n 0, 1) := by decide +kernel
theorem dX8_save_52 : decode cX8_save 52 = .ok (.getfield 7, 3) := by decide +kernel
theorem dX8_save_55 : decode cX8_save 55 = .ok (.iastore, 1) := by decide +kernel
theorem dX8_save_56 : decode cX8_save 56 = .ok (.aload_n 0, 1) := by decide +kernel
theorem dX8_save_57 : decode cX8_save 57 = .ok (.getfield 23, 3) := by decide +kernel
theorem dX8_save_60 : decode cX8_save 60 = .ok (.iconst 2, 1) := by decide +kernel
theorem dX8_save_61 : decode cX8_save 61 = .ok (.aload_n 0, 1) := by decide +kernel
theorem dX8_save_62 : decode cX8_save 62 = .ok (.getfield 90, 3) := by decide +kernel
theorem dX8_save_65 : decode cX8_save 65 = .ok (.imul, 1) := by decide +kernel
theorem dX8_save_66 : decode cX8_save 66 = .ok (.iconst 1, 1) := by decide +kernel
theorem dX8_save_67 : decode cX8_save 67 = .ok (.iadd, 1) := by decide +kernel
theorem dX8_save_68 : decode cX8_save 68 = .ok (.aload_n 0, 1) := by decide +kernel
theorem dX8_save_69 : decode cX8_save 69 = .ok (.getfield 13, 3) := by decide +kernel
theorem dX8_save_72 : decode cX8_save 72 = .ok (.iastore, 1) := by decide +kernel
theorem dX8_save_73 : decode cX8_save 73 = .ok (.iconst 0, 1) := by decide +kernel
theorem dX8_save_74 : decode cX8_save 74 = .ok (.istore_n 1, 1) := by decide +kernel
theorem dX8_save_75 : decode cX8_save 75 = .ok (.iload_n 1, 1) := by decide +kernel
theorem dX8_save_76 : decode cX8_save 76 = .ok (.bipush 64, 2) := by decide +kernel
theorem dX8_save_78 : decode cX8_save 78 = .ok (.if_icmp .ge 49, 3) := by decide +kernel
theorem dX8_save_81 : decode cX8_save 81 = .ok (.aload_n 0, 1) := by decide +kernel
theorem dX8_save_82 : decode cX8_save 82 = .ok (.getfield 26, 3) := by decide +kernel
theorem dX8_save_85 : decode cX8_save 85 = .ok (.bipush 64, 2) := by decide +kernel
theorem dX8_save_87 : decode cX8_save 87 = .ok (.aload_n 0, 1) := by decide +kernel
theorem dX8_save_88 : decode cX8_save 88 = .ok (.getfield 90, 3) := by decide +kernel
theorem dX8_save_91 : decode cX8_save 91 = .ok (.imul, 1) := by decide +kernel
theorem dX8_save_92 : decode cX8_save 92 = .ok (.iload_n 1, 1) := by decide +kernel
theorem dX8_save_93 : decode cX8_save 93 = .ok (.iadd, 1) := by decide +kernel
theorem dX8_save_94 : decode cX8_save 94 = .ok (.aload_n 0, 1) := by decide +kernel
theorem dX8_save_95 : decode cX8_save 95 = .ok (.getfield 16, 3) := by decide +kernel
theorem dX8_save_98 : decode cX8_save 98 = .ok (.iload_n 1, 1) := by decide +kernel
theorem dX8_save_99 : decode cX8_save 99 = .ok (.iaload, 1) := by decide +kernel
theorem dX8_save_100 : decode cX8_save 100 = .ok (.iastore, 1) := by decide +kernel
theorem dX8_save_101 : decode cX8_save 101 = .ok (.aload_n 0, 1) := by decide +kernel
theorem dX8_save_102 : decode cX8_save 102 = .ok (.getfield 29, 3) := by decide +kernel
theorem dX8_save_105 : decode cX8_save 105 = .ok (.bipush 64, 2) := by decide +kernel
theorem dX8_save_107 : decode cX8_save 107 = .ok (.aload_n 0, 1) := by decide +kernel
theorem dX8_save_108 : decode cX8_save 108 = .ok (.getfield 90, 3) := by decide +kernel
theorem dX8_save_111 : decode cX8_save 111 = .ok (.imul, 1) := by decide +kernel
theorem dX8_save_112 : decode cX8_save 112 = .ok (.iload_n 1, 1) := by decide +kernel
theorem dX8_save_113 : decode cX8_save 113 = .ok (.iadd, 1) := by decide +kernel
theorem dX8_save_114 : decode cX8_save 114 = .ok (.aload_n 0, 1) := by decide +kernel
theorem dX8_save_115 : decode cX8_save 115 = .ok (.getfield 20, 3) := by decide +kernel
theorem dX8_save_118 : decode cX8_save 118 = .ok (.iload_n 1, 1) := by decide +kernel
theorem dX8_save_119 : decode cX8_save 119 = .ok (.iaload, 1) := by decide +kernel
theorem dX8_save_120 : decode cX8_save 120 = .ok (.iastore, 1) := by decide +kernel
theorem dX8_save_121 : decode cX8_save 121 = .ok (.iinc 1 1, 3) := by decide +kernel
theorem dX8_save_124 : decode cX8_save 124 = .ok (.goto (-49), 3) := by decide +kernel
theorem dX8_save_127 : decode cX8_save 127 = .ok (.aload_n 0, 1) := by decide +kernel
theorem dX8_save_128 : decode cX8_save 128 = .ok (.dup, 1) := by decide +kernel
theorem dX8_save_129 : decode cX8_save 129 = .ok (.getfield 90, 3) := by decide +kernel
theorem dX8_save_132 : decode cX8_save 132 = .ok (.iconst 1, 1) := by decide +kernel
theorem dX8_save_133 : decode cX8_save 133 = .ok (.iadd, 1) := by decide +kernel
theorem dX8_save_134 : decode cX8_save 134 = .ok (.putfield 90, 3) := by decide +kernel
theorem dX8_save_137 : decode cX8_save 137 = .ok (.aload_n 0, 1) := by decide +kernel
theorem dX8_save_138 : decode cX8_save 138 = .ok (.iconst 0, 1) := by decide +kernel
theorem dX8_save_139 : decode cX8_save 139 = .ok (.putfield 97, 3) := by decide +kernel
theorem dX8_save_142 : decode cX8_save 142 = .ok (.return_, 1) := by decide +kernel
theorem dX8_undo_0 : decode cX8_undo 0 = .ok (.aload_n 0, 1) := by decide +kernel
theorem dX8_undo_1 : decode cX8_undo 1 = .ok (.aload_n 0, 1) := by decide +kernel
theorem dX8_undo_2 : decode cX8_undo 2 = .ok (.getfield 90, 3) := by decide +kernel
theorem dX8_undo_5 : decode cX8_undo 5 = .ok (.ifCond .le 7, 3) := by decide +kernel
theorem dX8_undo_8 : decode cX8_undo 8 = .ok (.iconst 0, 1) := by decide +kernel
theorem dX8_undo_9 : decode cX8_undo 9 = .ok (.goto 4, 3) := by decide +kernel
theorem dX8_undo_12 : decode cX8_undo 12 = .ok (.iconst 1, 1) := by decide +kernel
theorem dX8_undo_13 : decode cX8_undo 13 = .ok (.putfield 73, 3) := by decide +kernel
theorem dX8_undo_16 : decode cX8_undo 16 = .ok (.aload_n 0, 1) := by decide +kernel
theorem dX8_undo_17 : decode cX8_undo 17 = .ok (.getfield 73, 3) := by decide +kernel
theorem dX8_undo_20 : decode cX8_undo 20 = .ok (.ifCond .le 5, 3) := by decide +kernel
theorem dX8_undo_23 : decode cX8_undo 23 = .ok (.iconst 0, 1) := by decide +kernel
theorem dX8_undo_24 : decode cX8_undo 24 = .ok (.ireturn, 1) := by decide +kernel
theorem dX8_undo_25 : decode cX8_undo 25 = .ok (.aload_n 0, 1) := by decide +kernel
theorem dX8_undo_26 : decode cX8_undo 26 = .ok (.dup, 1) := by decide +kernel
theorem dX8_undo_27 : decode cX8_undo 27 = .ok (.getfield 90, 3) := by decide +kernel
theorem dX8_undo_30 : decode cX8_undo 30 = .ok (.iconst 1, 1) := by decide +kernel
theorem dX8_undo_31 : decode cX8_undo 31 = .ok (.isub, 1) := by decide +kernel
theorem dX8_undo_32 : decode cX8_undo 32 = .ok (.putfield 90, 3) := by decide +kernel
theorem dX8_undo_35 : decode cX8_undo 35 = .ok (.aload_n 0, 1) := by decide +kernel
theorem dX8_undo_36 : decode cX8_undo 36 = .ok (.aload_n 0, 1) := by decide +kernel
theorem dX8_undo_37 : decode cX8_undo 37 = .ok (.getfield 23, 3) := by decide +kernel
theorem dX8_undo_40 : decode cX8_undo 40 = .ok (.iconst 2, 1) := by decide +kernel
theorem dX8_undo_41 : decode cX8_undo 41 = .ok (.aload_n 0, 1) := by decide +kernel
theorem dX8_undo_42 : decode cX8_undo 42 = .ok (.getfield 90, 3) := by decide +kernel
theorem dX8_undo_45 : decode cX8_undo 45 = .ok (.imul, 1) := by decide +kernel
theorem dX8_undo_46 : decode cX8_undo 46 = .ok (.iaload, 1) := by decide +kernel
theorem dX8_undo_47 : decode cX8_undo 47 = .ok (.putfield 7, 3) := by decide +kernel
theorem dX8_undo_50 : decode cX8_undo 50 = .ok (.aload_n 0, 1) := by decide +kernel
theorem dX8_undo_51 : decode cX8_undo 51 = .ok (.aload_n 0, 1) := by decide +kernel
theorem dX8_undo_52 : decode cX8_undo 52 = .ok (.getfield 23, 3) := by decide +kernel
theorem dX8_undo_55 : decode cX8_undo 55 = .ok (.iconst 2, 1) := by decide +kernel
theorem dX8_undo_56 : decode cX8_undo 56 = .ok (.aload_n 0, 1) := by decide +kernel
theorem dX8_undo_57 : decode cX8_undo 57 = .ok (.getfield 90, 3) := by decide +kernel
theorem dX8_undo_60 : decode cX8_undo 60 = .ok (.imul, 1) := by decide +kernel
theorem dX8_undo_61 : decode cX8_undo 61 = .ok (.iconst 1, 1) := by decide +kernel
theorem dX8_undo_62 : decode cX8_undo 62 = .ok (.iadd, 1) := by decide +kernel
theorem dX8_undo_63 : decode cX8_undo 63 = .ok (.iaload, 1) := by decide +kernel
theorem dX8_undo_64 : decode cX8_undo 64 = .ok (.putfield 13, 3) := by decide +kernel
theorem dX8_undo_67 : decode cX8_undo 67 = .ok (.iconst 0, 1) := by decide +kernel
theorem dX8_undo_68 : decode cX8_undo 68 = .ok (.istore_n 1, 1) := by decide +kernel
theorem dX8_undo_69 : decode cX8_undo 69 = .ok (.iload_n 1, 1) := by decide +kernel
theorem dX8_undo_70 : decode cX8_undo 70 = .ok (.bipush 64, 2) := by decide +kernel
theorem dX8_undo_72 : decode cX8_undo 72 = .ok (.if_icmp .ge 49, 3) := by decide +kernel
theorem dX8_undo_75 : decode cX8_undo 75 = .ok (.aload_n 0, 1) := by decide +kernel
theorem dX8_undo_76 : decode cX8_undo 76 = .ok (.getfield 16, 3) := by decide +kernel
theorem dX8_undo_79 : decode cX8_undo 79 = .ok (.iload_n 1, 1) := by decide +kernel
theorem dX8_undo_80 : decode cX8_undo 80 = .ok (.aload_n 0, 1) := by decide +kernel
theorem dX8_undo_81 : decode cX8_undo 81 = .ok (.getfield 26, 3) := by decide +kernel
theorem dX8_undo_84 : decode cX8_undo 84 = .ok (.bipush 64, 2) := by decide +kernel
theorem dX8_undo_86 : decode cX8_undo 86 = .ok (.aload_n 0, 1) := by decide +kernel
theorem dX8_undo_87 : decode cX8_undo 87 = .ok (.getfield 90, 3) := by decide +kernel
theorem dX8_undo_90 : decode cX8_undo 90 = .ok (.imul, 1) := by decide +kernel
theorem dX8_undo_91 : decode cX8_undo 91 = .ok (.iload_n 1, 1) := by decide +kernel
theorem dX8_undo_92 : decode cX8_undo 92 = .ok (.iadd, 1) := by decide +kernel
theorem dX8_undo_93 : decode cX8_undo 93 = .ok (.iaload, 1) := by decide +kernel
theorem dX8_undo_94 : decode cX8_undo 94 = .ok (.iastore, 1) := by decide +kernel
theorem dX8_undo_95 : decode cX8_undo 95 = .ok (.aload_n 0, 1) := by decide +kernel
theorem dX8_undo_96 : decode cX8_undo 96 = .ok (.getfield 20, 3) := by decide +kernel
theorem dX8_undo_99 : decode cX8_undo 99 = .ok (.iload_n 1, 1) := by decide +kernel
theorem dX8_undo_100 : decode cX8_undo 100 = .ok (.aload_n 0, 1) := by decide +kernel
theorem dX8_undo_101 : decode cX8_undo 101 = .ok (.getfield 29, 3) := by decide +kernel
theorem dX8_undo_104 : decode cX8_undo 104 = .ok (.bipush 64, 2) := by decide +kernel
theorem dX8_undo_106 : decode cX8_undo 106 = .ok (.aload_n 0, 1) := by decide +kernel
theorem dX8_undo_107 : decode cX8_undo 107 = .ok (.getfield 90, 3) := by decide +kernel
theorem dX8_undo_110 : decode cX8_undo 110 = .ok (.imul, 1) := by decide +kernel
theorem dX8_undo_111 : decode cX8_undo 111 = .ok (.iload_n 1, 1) := by decide +kernel
theorem dX8_undo_112 : decode cX8_undo 112 = .ok (.iadd, 1) := by decide +kernel
theorem dX8_undo_113 : decode cX8_undo 113 = .ok (.iaload, 1) := by decide +kernel
theorem dX8_undo_114 : decode cX8_undo 114 = .ok (.iastore, 1) := by decide +kernel
theorem dX8_undo_115 : decode cX8_undo 115 = .ok (.iinc 1 1, 3) := by decide +kernel
theorem dX8_undo_118 : decode cX8_undo 118 = .ok (.goto (-49), 3) := by decide +kernel
theorem dX8_undo_121 : decode cX8_undo 121 = .ok (.aload_n 0, 1) := by decide +kernel
theorem dX8_undo_122 : decode cX8_undo 122 = .ok (.iconst 0, 1) := by decide +kernel
theorem dX8_undo_123 : decode cX8_undo 123 = .ok (.putfield 97, 3) := by decide +kernel
theorem dX8_undo_126 : decode cX8_undo 126 = .ok (.aload_n 0, 1) := by decide +kernel
theorem dX8_undo_127 : decode cX8_undo 127 = .ok (.getfield 90, 3) := by decide +kernel
theorem dX8_undo_130 : decode cX8_undo 130 = .ok (.ireturn, 1) := by decide +kernel
theorem dX8_clear_0 : decode cX8_clear 0 = .ok (.aload_n 0, 1) := by decide +kernel
theorem dX8_clear_1 : decode cX8_clear 1 = .ok (.iload_n 1, 1) := by decide +kernel
theorem dX8_clear_2 : decode cX8_clear 2 = .ok (.putfield 7, 3) := by decide +kernel
theorem dX8_clear_5 : decode cX8_clear 5 = .ok (.aload_n 0, 1) := by decide +kernel
theorem dX8_clear_6 : decode cX8_clear 6 = .ok (.iload_n 2, 1) := by decide +kernel
theorem dX8_clear_7 : decode cX8_clear 7 = .ok (.putfield 13, 3) := by decide +kernel
theorem dX8_clear_10 : decode cX8_clear 10 = .ok (.iconst 0, 1) := by decide +kernel
theorem dX8_clear_11 : decode cX8_clear 11 = .ok (.istore_n 3, 1) := by decide +kernel
theorem dX8_clear_12 : decode cX8_clear 12 = .ok (.iload_n 3, 1) := by decide +kernel
theorem dX8_clear_13 : decode cX8_clear 13 = .ok (.bipush 64, 2) := by decide +kernel
theorem dX8_clear_15 : decode cX8_clear 15 = .ok (.if_icmp .ge 23, 3) := by decide +kernel
theorem dX8_clear_18 : decode cX8_clear 18 = .ok (.aload_n 0, 1) := by decide +kernel
theorem dX8_clear_19 : decode cX8_clear 19 = .ok (.getfield 16, 3) := by decide +kernel
theorem dX8_clear_22 : decode cX8_clear 22 = .ok (.iload_n 3, 1) := by decide +kernel
theorem dX8_clear_23 : decode cX8_clear 23 = .ok (.iconst 0, 1) := by decide +kernel
theorem dX8_clear_24 : decode cX8_clear 24 = .ok (.iastore, 1) := by decide +kernel
theorem dX8_clear_25 : decode cX8_clear 25 = .ok (.aload_n 0, 1) := by decide +kernel
theorem dX8_clear_26 : decode cX8_clear 26 = .ok (.getfield 20, 3) := by decide +kernel
theorem dX8_clear_29 : decode cX8_clear 29 = .ok (.iload_n 3, 1) := by decide +kernel
theorem dX8_clear_30 : decode cX8_clear 30 = .ok (.iconst 0, 1) := by decide +kernel
theorem dX8_clear_31 : decode cX8_clear 31 = .ok (.iastore, 1) := by decide +kernel
theorem dX8_clear_32 : decode cX8_clear 32 = .ok (.iinc 3 1, 3) := by decide +kernel
theorem dX8_clear_35 : decode cX8_clear 35 = .ok (.goto (-23), 3) := by decide +kernel
theorem dX8_clear_38 : decode cX8_clear 38 = .ok (.return_, 1) := by decide +kernel
theorem dX8_begin_0 : decode cX8_begin 0 = .ok (.aload_n 0, 1) := by decide +kernel
theorem dX8_begin_1 : decode cX8_begin 1 = .ok (.iload_n 1, 1) := by decide +kernel
theorem dX8_begin_2 : decode cX8_begin 2 = .ok (.iconst 1, 1) := by decide +kernel
theorem dX8_begin_3 : decode cX8_begin 3 = .ok (.bipush 8, 2) := by decide +kernel
theorem dX8_begin_5 : decode cX8_begin 5 = .ok (.invokestatic 80, 3) := by decide +kernel
theorem dX8_begin_8 : decode cX8_begin 8 = .ok (.ifCond .eq 17, 3) := by decide +kernel
theorem dX8_begin_11 : decode cX8_begin 11 = .ok (.iload_n 2, 1) := by decide +kernel
theorem dX8_begin_12 : decode cX8_begin 12 = .ok (.iconst 1, 1) := by decide +kernel
theorem dX8_begin_13 : decode cX8_begin 13 = .ok (.bipush 8, 2) := by decide +kernel
theorem dX8_begin_15 : decode cX8_begin 15 = .ok (.invokestatic 80, 3) := by decide +kernel
theorem dX8_begin_18 : decode cX8_begin 18 = .ok (.ifCond .eq 7, 3) := by decide +kernel
theorem dX8_begin_21 : decode cX8_begin 21 = .ok (.iconst 0, 1) := by decide +kernel
theorem dX8_begin_22 : decode cX8_begin 22 = .ok (.goto 4, 3) := by decide +kernel
theorem dX8_begin_25 : decode cX8_begin 25 = .ok (.iconst 1, 1) := by decide +kernel
theorem dX8_begin_26 : decode cX8_begin 26 = .ok (.putfield 73, 3) := by decide +kernel
theorem dX8_begin_29 : decode cX8_begin 29 = .ok (.aload_n 0, 1) := by decide +kernel
theorem dX8_begin_30 : decode cX8_begin 30 = .ok (.getfield 73, 3) := by decide +kernel
theorem dX8_begin_33 : decode cX8_begin 33 = .ok (.ifCond .le 5, 3) := by decide +kernel
theorem dX8_begin_36 : decode cX8_begin 36 = .ok (.iconst 0, 1) := by decide +kernel
theorem dX8_begin_37 : decode cX8_begin 37 = .ok (.ireturn, 1) := by decide +kernel
theorem dX8_begin_38 : decode cX8_begin 38 = .ok (.aload_n 0, 1) := by decide +kernel
theorem dX8_begin_39 : decode cX8_begin 39 = .ok (.invokevirtual 76, 3) := by decide +kernel
theorem dX8_begin_42 : decode cX8_begin 42 = .ok (.istore_n 3, 1) := by decide +kernel
theorem dX8_begin_43 : decode cX8_begin 43 = .ok (.aload_n 0, 1) := by decide +kernel
theorem dX8_begin_44 : decode cX8_begin 44 = .ok (.invokevirtual 100, 3) := by decide +kernel
theorem dX8_begin_47 : decode cX8_begin 47 = .ok (.aload_n 0, 1) := by decide +kernel
theorem dX8_begin_48 : decode cX8_begin 48 = .ok (.iload_n 1, 1) := by decide +kernel
theorem dX8_begin_49 : decode cX8_begin 49 = .ok (.iload_n 2, 1) := by decide +kernel
theorem dX8_begin_50 : decode cX8_begin 50 = .ok (.invokevirtual 103, 3) := by decide +kernel
theorem dX8_begin_53 : decode cX8_begin 53 = .ok (.iload_n 3, 1) := by decide +kernel
theorem dX8_begin_54 : decode cX8_begin 54 = .ok (.ireturn, 1) := by decide +kernel
theorem dX8_setLevel_0 : decode cX8_setLevel 0 = .ok (.aload_n 0, 1) := by decide +kernel
theorem dX8_setLevel_1 : decode cX8_setLevel 1 = .ok (.aload_n 0, 1) := by decide +kernel
theorem dX8_setLevel_2 : decode cX8_setLevel 2 = .ok (.iload_n 1, 1) := by decide +kernel
theorem dX8_setLevel_3 : decode cX8_setLevel 3 = .ok (.invokevirtual 106, 3) := by decide +kernel
theorem dX8_setLevel_6 : decode cX8_setLevel 6 = .ok (.ifCond .ne 7, 3) := by decide +kernel
theorem dX8_setLevel_9 : decode cX8_setLevel 9 = .ok (.iconst 1, 1) := by decide +kernel
theorem dX8_setLevel_10 : decode cX8_setLevel 10 = .ok (.goto 18, 3) := by decide +kernel
theorem dX8_setLevel_13 : decode cX8_setLevel 13 = .ok (.iload_n 2, 1) := by decide +kernel
theorem dX8_setLevel_14 : decode cX8_setLevel 14 = .ok (.iconst 0, 1) := by decide +kernel
theorem dX8_setLevel_15 : decode cX8_setLevel 15 = .ok (.bipush 15, 2) := by decide +kernel
theorem dX8_setLevel_17 : decode cX8_setLevel 17 = .ok (.invokestatic 80, 3) := by decide +kernel
theorem dX8_setLevel_20 : decode cX8_setLevel 20 = .ok (.ifCond .eq 7, 3) := by decide +kernel
theorem dX8_setLevel_23 : decode cX8_setLevel 23 = .ok (.iconst 0, 1) := by decide +kernel
theorem dX8_setLevel_24 : decode cX8_setLevel 24 = .ok (.goto 4, 3) := by decide +kernel
theorem dX8_setLevel_27 : decode cX8_setLevel 27 = .ok (.iconst 2, 1) := by decide +kernel
theorem dX8_setLevel_28 : decode cX8_setLevel 28 = .ok (.putfield 73, 3) := by decide +kernel
theorem dX8_setLevel_31 : decode cX8_setLevel 31 = .ok (.aload_n 0, 1) := by decide +kernel
theorem dX8_setLevel_32 : decode cX8_setLevel 32 = .ok (.getfield 73, 3) := by decide +kernel
theorem dX8_setLevel_35 : decode cX8_setLevel 35 = .ok (.ifCond .le 5, 3) := by decide +kernel
theorem dX8_setLevel_38 : decode cX8_setLevel 38 = .ok (.iconst 0, 1) := by decide +kernel
theorem dX8_setLevel_39 : decode cX8_setLevel 39 = .ok (.ireturn, 1) := by decide +kernel
theorem dX8_setLevel_40 : decode cX8_setLevel 40 = .ok (.aload_n 0, 1) := by decide +kernel
theorem dX8_setLevel_41 : decode cX8_setLevel 41 = .ok (.getfield 16, 3) := by decide +kernel
theorem dX8_setLevel_44 : decode cX8_setLevel 44 = .ok (.iload_n 1, 1) := by decide +kernel
theorem dX8_setLevel_45 : decode cX8_setLevel 45 = .ok (.iaload, 1) := by decide +kernel
theorem dX8_setLevel_46 : decode cX8_setLevel 46 = .ok (.istore_n 3, 1) := by decide +kernel
theorem dX8_setLevel_47 : decode cX8_setLevel 47 = .ok (.aload_n 0, 1) := by decide +kernel
theorem dX8_setLevel_48 : decode cX8_setLevel 48 = .ok (.invokevirtual 100, 3) := by decide +kernel
theorem dX8_setLevel_51 : decode cX8_setLevel 51 = .ok (.aload_n 0, 1) := by decide +kernel
theorem dX8_setLevel_52 : decode cX8_setLevel 52 = .ok (.getfield 16, 3) := by decide +kernel
theorem dX8_setLevel_55 : decode cX8_setLevel 55 = .ok (.iload_n 1, 1) := by decide +kernel
theorem dX8_setLevel_56 : decode cX8_setLevel 56 = .ok (.iload_n 2, 1) := by decide +kernel
theorem dX8_setLevel_57 : decode cX8_setLevel 57 = .ok (.iastore, 1) := by decide +kernel
theorem dX8_setLevel_58 : decode cX8_setLevel 58 = .ok (.iload_n 3, 1) := by decide +kernel
theorem dX8_setLevel_59 : decode cX8_setLevel 59 = .ok (.ireturn, 1) := by decide +kernel
theorem dX8_isBetween_0 : decode cX8_isBetween 0 = .ok (.iload_n 1, 1) := by decide +kernel
theorem dX8_isBetween_1 : decode cX8_isBetween 1 = .ok (.iload_n 2, 1) := by decide +kernel
theorem dX8_isBetween_2 : decode cX8_isBetween 2 = .ok (.if_icmp .ge 12, 3) := by decide +kernel
theorem dX8_isBetween_5 : decode cX8_isBetween 5 = .ok (.iload_n 0, 1) := by decide +kernel
theorem dX8_isBetween_6 : decode cX8_isBetween 6 = .ok (.iload_n 1, 1) := by decide +kernel
theorem dX8_isBetween_7 : decode cX8_isBetween 7 = .ok (.iload_n 2, 1) := by decide +kernel
theorem dX8_isBetween_8 : decode cX8_isBetween 8 = .ok (.invokestatic 80, 3) := by decide +kernel
theorem dX8_isBetween_11 : decode cX8_isBetween 11 = .ok (.goto 9, 3) := by decide +kernel
theorem dX8_isBetween_14 : decode cX8_isBetween 14 = .ok (.iload_n 0, 1) := by decide +kernel
theorem dX8_isBetween_15 : decode cX8_isBetween 15 = .ok (.iload_n 2, 1) := by decide +kernel
theorem dX8_isBetween_16 : decode cX8_isBetween 16 = .ok (.iload_n 1, 1) := by decide +kernel
theorem dX8_isBetween_17 : decode cX8_isBetween 17 = .ok (.invokestatic 80, 3) := by decide +kernel
theorem dX8_isBetween_20 : decode cX8_isBetween 20 = .ok (.ireturn, 1) := by decide +kernel
theorem dX8_fill_0 : decode cX8_fill 0 = .ok (.aload_n 0, 1) := by decide +kernel
theorem dX8_fill_1 : decode cX8_fill 1 = .ok (.aload_n 0, 1) := by decide +kernel
theorem dX8_fill_2 : decode cX8_fill 2 = .ok (.iload_n 1, 1) := by decide +kernel
theorem dX8_fill_3 : decode cX8_fill 3 = .ok (.invokevirtual 106, 3) := by decide +kernel
theorem dX8_fill_6 : decode cX8_fill 6 = .ok (.ifCond .eq 11, 3) := by decide +kernel
theorem dX8_fill_9 : decode cX8_fill 9 = .ok (.aload_n 0, 1) := by decide +kernel
theorem dX8_fill_10 : decode cX8_fill 10 = .ok (.iload_n 2, 1) := by decide +kernel
theorem dX8_fill_11 : decode cX8_fill 11 = .ok (.invokevirtual 106, 3) := by decide +kernel
theorem dX8_fill_14 : decode cX8_fill 14 = .ok (.ifCond .ne 7, 3) := by decide +kernel
theorem dX8_fill_17 : decode cX8_fill 17 = .ok (.iconst 1, 1) := by decide +kernel
theorem dX8_fill_18 : decode cX8_fill 18 = .ok (.goto 18, 3) := by decide +kernel
theorem dX8_fill_21 : decode cX8_fill 21 = .ok (.iload_n 3, 1) := by decide +kernel
theorem dX8_fill_22 : decode cX8_fill 22 = .ok (.iconst 0, 1) := by decide +kernel
theorem dX8_fill_23 : decode cX8_fill 23 = .ok (.bipush 15, 2) := by decide +kernel
theorem dX8_fill_25 : decode cX8_fill 25 = .ok (.invokestatic 80, 3) := by decide +kernel
theorem dX8_fill_28 : decode cX8_fill 28 = .ok (.ifCond .eq 7, 3) := by decide +kernel
theorem dX8_fill_31 : decode cX8_fill 31 = .ok (.iconst 0, 1) := by decide +kernel
theorem dX8_fill_32 : decode cX8_fill 32 = .ok (.goto 4, 3) := by decide +kernel
theorem dX8_fill_35 : decode cX8_fill 35 = .ok (.iconst 2, 1) := by decide +kernel
theorem dX8_fill_36 : decode cX8_fill 36 = .ok (.putfield 73, 3) := by decide +kernel
theorem dX8_fill_39 : decode cX8_fill 39 = .ok (.aload_n 0, 1) := by decide +kernel
theorem dX8_fill_40 : decode cX8_fill 40 = .ok (.getfield 73, 3) := by decide +kernel
theorem dX8_fill_43 : decode cX8_fill 43 = .ok (.ifCond .le 5, 3) := by decide +kernel
theorem dX8_fill_46 : decode cX8_fill 46 = .ok (.iconst 0, 1) := by decide +kernel
theorem dX8_fill_47 : decode cX8_fill 47 = .ok (.ireturn, 1) := by decide +kernel
theorem dX8_fill_48 : decode cX8_fill 48 = .ok (.aload_n 0, 1) := by decide +kernel
theorem dX8_fill_49 : decode cX8_fill 49 = .ok (.invokevirtual 100, 3) := by decide +kernel
theorem dX8_fill_52 : decode cX8_fill 52 = .ok (.iconst 0, 1) := by decide +kernel
theorem dX8_fill_53 : decode cX8_fill 53 = .ok (.istore 4, 2) := by decide +kernel
theorem dX8_fill_55 : decode cX8_fill 55 = .ok (.iconst 0, 1) := by decide +kernel
theorem dX8_fill_56 : decode cX8_fill 56 = .ok (.istore 5, 2) := by decide +kernel
theorem dX8_fill_58 : decode cX8_fill 58 = .ok (.iload 5, 2) := by decide +kernel
theorem dX8_fill_60 : decode cX8_fill 60 = .ok (.aload_n 0, 1) := by decide +kernel
theorem dX8_fill_61 : decode cX8_fill 61 = .ok (.invokevirtual 76, 3) := by decide +kernel
theorem dX8_fill_64 : decode cX8_fill 64 = .ok (.if_icmp .ge 88, 3) := by decide +kernel
theorem dX8_fill_67 : decode cX8_fill 67 = .ok (.iload 5, 2) := by decide +kernel
theorem dX8_fill_69 : decode cX8_fill 69 = .ok (.aload_n 0, 1) := by decide +kernel
theorem dX8_fill_70 : decode cX8_fill 70 = .ok (.getfield 7, 3) := by decide +kernel
theorem dX8_fill_73 : decode cX8_fill 73 = .ok (.irem, 1) := by decide +kernel
theorem dX8_fill_74 : decode cX8_fill 74 = .ok (.iload_n 1, 1) := by decide +kernel
theorem dX8_fill_75 : decode cX8_fill 75 = .ok (.aload_n 0, 1) := by decide +kernel
theorem dX8_fill_76 : decode cX8_fill 76 = .ok (.getfield 7, 3) := by decide +kernel
theorem dX8_fill_79 : decode cX8_fill 79 = .ok (.irem, 1) := by decide +kernel
theorem dX8_fill_80 : decode cX8_fill 80 = .ok (.iload_n 2, 1) := by decide +kernel
theorem dX8_fill_81 : decode cX8_fill 81 = .ok (.aload_n 0, 1) := by decide +kernel
theorem dX8_fill_82 : decode cX8_fill 82 = .ok (.getfield 7, 3) := by decide +kernel
theorem dX8_fill_85 : decode cX8_fill 85 = .ok (.irem, 1) := by decide +kernel
theorem dX8_fill_86 : decode cX8_fill 86 = .ok (.invokestatic 110, 3) := by decide +kernel
theorem dX8_fill_89 : decode cX8_fill 89 = .ok (.ifCond .eq 57, 3) := by decide +kernel
theorem dX8_fill_92 : decode cX8_fill 92 = .ok (.iload 5, 2) := by decide +kernel
theorem dX8_fill_94 : decode cX8_fill 94 = .ok (.aload_n 0, 1) := by decide +kernel
theorem dX8_fill_95 : decode cX8_fill 95 = .ok (.getfield 7, 3) := by decide +kernel
theorem dX8_fill_98 : decode cX8_fill 98 = .ok (.idiv, 1) := by decide +kernel
theorem dX8_fill_99 : decode cX8_fill 99 = .ok (.iload_n 1, 1) := by decide +kernel
theorem dX8_fill_100 : decode cX8_fill 100 = .ok (.aload_n 0, 1) := by decide +kernel
theorem dX8_fill_101 : decode cX8_fill 101 = .ok (.getfield 7, 3) := by decide +kernel
theorem dX8_fill_104 : decode cX8_fill 104 = .ok (.idiv, 1) := by decide +kernel
theorem dX8_fill_105 : decode cX8_fill 105 = .ok (.iload_n 2, 1) := by decide +kernel
theorem dX8_fill_106 : decode cX8_fill 106 = .ok (.aload_n 0, 1) := by decide +kernel
theorem dX8_fill_107 : decode cX8_fill 107 = .ok (.getfield 7, 3) := by decide +kernel
theorem dX8_fill_110 : decode cX8_fill 110 = .ok (.idiv, 1) := by decide +kernel
theorem dX8_fill_111 : decode cX8_fill 111 = .ok (.invokestatic 110, 3) := by decide +kernel
theorem dX8_fill_114 : decode cX8_fill 114 = .ok (.ifCond .eq 32, 3) := by decide +kernel
theorem dX8_fill_117 : decode cX8_fill 117 = .ok (.iload 4, 2) := by decide +kernel
theorem dX8_fill_119 : decode cX8_fill 119 = .ok (.aload_n 0, 1) := by decide +kernel
theorem dX8_fill_120 : decode cX8_fill 120 = .ok (.getfield 16, 3) := by decide +kernel
theorem dX8_fill_123 : decode cX8_fill 123 = .ok (.iload 5, 2) := by decide +kernel
theorem dX8_fill_125 : decode cX8_fill 125 = .ok (.iaload, 1) := by decide +kernel
theorem dX8_fill_126 : decode cX8_fill 126 = .ok (.iload_n 3, 1) := by decide +kernel
theorem dX8_fill_127 : decode cX8_fill 127 = .ok (.if_icmp .ne 7, 3) := by decide +kernel
theorem dX8_fill_130 : decode cX8_fill 130 = .ok (.iconst 0, 1) := by decide +kernel
theorem dX8_fill_131 : decode cX8_fill 131 = .ok (.goto 4, 3) := by decide +kernel
theorem dX8_fill_134 : decode cX8_fill 134 = .ok (.iconst 1, 1) := by decide +kernel
theorem dX8_fill_135 : decode cX8_fill 135 = .ok (.iadd, 1) := by decide +kernel
theorem dX8_fill_136 : decode cX8_fill 136 = .ok (.istore 4, 2) := by decide +kernel
theorem dX8_fill_138 : decode cX8_fill 138 = .ok (.aload_n 0, 1) := by decide +kernel
theorem dX8_fill_139 : decode cX8_fill 139 = .ok (.getfield 16, 3) := by decide +kernel
theorem dX8_fill_142 : decode cX8_fill 142 = .ok (.iload 5, 2) := by decide +kernel
theorem dX8_fill_144 : decode cX8_fill 144 = .ok (.iload_n 3, 1) := by decide +kernel
theorem dX8_fill_145 : decode cX8_fill 145 = .ok (.iastore, 1) := by decide +kernel
theorem dX8_fill_146 : decode cX8_fill 146 = .ok (.iinc 5 1, 3) := by decide +kernel
theorem dX8_fill_149 : decode cX8_fill 149 = .ok (.goto (-91), 3) := by decide +kernel
theorem dX8_fill_152 : decode cX8_fill 152 = .ok (.iload 4, 2) := by decide +kernel
theorem dX8_fill_154 : decode cX8_fill 154 = .ok (.ireturn, 1) := by decide +kernel
theorem dX8_complement_0 : decode cX8_complement 0 = .ok (.aload_n 0, 1) := by decide +kernel
theorem dX8_complement_1 : decode cX8_complement 1 = .ok (.iconst 0, 1) := by decide +kernel
theorem dX8_complement_2 : decode cX8_complement 2 = .ok (.putfield 73, 3) := by decide +kernel
theorem dX8_complement_5 : decode cX8_complement 5 = .ok (.aload_n 0, 1) := by decide +kernel
theorem dX8_complement_6 : decode cX8_complement 6 = .ok (.invokevirtual 100, 3) := by decide +kernel
theorem dX8_complement_9 : decode cX8_complement 9 = .ok (.iconst 0, 1) := by decide +kernel
theorem dX8_complement_10 : decode cX8_complement 10 = .ok (.istore_n 1, 1) := by decide +kernel
theorem dX8_complement_11 : decode cX8_complement 11 = .ok (.iload_n 1, 1) := by decide +kernel
theorem dX8_complement_12 : decode cX8_complement 12 = .ok (.aload_n 0, 1) := by decide +kernel
theorem dX8_complement_13 : decode cX8_complement 13 = .ok (.invokevirtual 76, 3) := by decide +kernel
theorem dX8_complement_16 : decode cX8_complement 16 = .ok (.if_icmp .ge 24, 3) := by decide +kernel
theorem dX8_complement_19 : decode cX8_complement 19 = .ok (.aload_n 0, 1) := by decide +kernel
theorem dX8_complement_20 : decode cX8_complement 20 = .ok (.getfield 16, 3) := by decide +kernel
theorem dX8_complement_23 : decode cX8_complement 23 = .ok (.iload_n 1, 1) := by decide +kernel
theorem dX8_complement_24 : decode cX8_complement 24 = .ok (.bipush 15, 2) := by decide +kernel
theorem dX8_complement_26 : decode cX8_complement 26 = .ok (.aload_n 0, 1) := by decide +kernel
theorem dX8_complement_27 : decode cX8_complement 27 = .ok (.getfield 16, 3) := by decide +kernel
theorem dX8_complement_30 : decode cX8_complement 30 = .ok (.iload_n 1, 1) := by decide +kernel
theorem dX8_complement_31 : decode cX8_complement 31 = .ok (.iaload, 1) := by decide +kernel
theorem dX8_complement_32 : decode cX8_complement 32 = .ok (.isub, 1) := by decide +kernel
theorem dX8_complement_33 : decode cX8_complement 33 = .ok (.iastore, 1) := by decide +kernel
theorem dX8_complement_34 : decode cX8_complement 34 = .ok (.iinc 1 1, 3) := by decide +kernel
theorem dX8_complement_37 : decode cX8_complement 37 = .ok (.goto (-26), 3) := by decide +kernel
theorem dX8_complement_40 : decode cX8_complement 40 = .ok (.aload_n 0, 1) := by decide +kernel
theorem dX8_complement_41 : decode cX8_complement 41 = .ok (.invokevirtual 113, 3) := by decide +kernel
theorem dX8_complement_44 : decode cX8_complement 44 = .ok (.aload_n 0, 1) := by decide +kernel
theorem dX8_complement_45 : decode cX8_complement 45 = .ok (.getfield 116, 3) := by decide +kernel
theorem dX8_complement_48 : decode cX8_complement 48 = .ok (.ireturn, 1) := by decide +kernel
theorem dX8_setMarker_0 : decode cX8_setMarker 0 = .ok (.aload_n 0, 1) := by decide +kernel
theorem dX8_setMarker_1 : decode cX8_setMarker 1 = .ok (.aload_n 0, 1) := by decide +kernel
theorem dX8_setMarker_2 : decode cX8_setMarker 2 = .ok (.iload_n 1, 1) := by decide +kernel
theorem dX8_setMarker_3 : decode cX8_setMarker 3 = .ok (.invokevirtual 106, 3) := by decide +kernel
theorem dX8_setMarker_6 : decode cX8_setMarker 6 = .ok (.ifCond .ne 7, 3) := by decide +kernel
theorem dX8_setMarker_9 : decode cX8_setMarker 9 = .ok (.iconst 1, 1) := by decide +kernel
theorem dX8_setMarker_10 : decode cX8_setMarker 10 = .ok (.goto 18, 3) := by decide +kernel
theorem dX8_setMarker_13 : decode cX8_setMarker 13 = .ok (.iload_n 2, 1) := by decide +kernel
theorem dX8_setMarker_14 : decode cX8_setMarker 14 = .ok (.iconst 0, 1) := by decide +kernel
theorem dX8_setMarker_15 : decode cX8_setMarker 15 = .ok (.bipush 15, 2) := by decide +kernel
theorem dX8_setMarker_17 : decode cX8_setMarker 17 = .ok (.invokestatic 80, 3) := by decide +kernel
theorem dX8_setMarker_20 : decode cX8_setMarker 20 = .ok (.ifCond .eq 7, 3) := by decide +kernel
theorem dX8_setMarker_23 : decode cX8_setMarker 23 = .ok (.iconst 0, 1) := by decide +kernel
theorem dX8_setMarker_24 : decode cX8_setMarker 24 = .ok (.goto 4, 3) := by decide +kernel
theorem dX8_setMarker_27 : decode cX8_setMarker 27 = .ok (.iconst 2, 1) := by decide +kernel
theorem dX8_setMarker_28 : decode cX8_setMarker 28 = .ok (.putfield 73, 3) := by decide +kernel
theorem dX8_setMarker_31 : decode cX8_setMarker 31 = .ok (.aload_n 0, 1) := by decide +kernel
theorem dX8_setMarker_32 : decode cX8_setMarker 32 = .ok (.getfield 73, 3) := by decide +kernel
theorem dX8_setMarker_35 : decode cX8_setMarker 35 = .ok (.ifCond .le 5, 3) := by decide +kernel
theorem dX8_setMarker_38 : decode cX8_setMarker 38 = .ok (.iconst 0, 1) := by decide +kernel
theorem dX8_setMarker_39 : decode cX8_setMarker 39 = .ok (.ireturn, 1) := by decide +kernel
theorem dX8_setMarker_40 : decode cX8_setMarker 40 = .ok (.aload_n 0, 1) := by decide +kernel
theorem dX8_setMarker_41 : decode cX8_setMarker 41 = .ok (.getfield 20, 3) := by decide +kernel
theorem dX8_setMarker_44 : decode cX8_setMarker 44 = .ok (.iload_n 1, 1) := by decide +kernel
theorem dX8_setMarker_45 : decode cX8_setMarker 45 = .ok (.iaload, 1) := by decide +kernel
theorem dX8_setMarker_46 : decode cX8_setMarker 46 = .ok (.istore_n 3, 1) := by decide +kernel
theorem dX8_setMarker_47 : decode cX8_setMarker 47 = .ok (.aload_n 0, 1) := by decide +kernel
theorem dX8_setMarker_48 : decode cX8_setMarker 48 = .ok (.getfield 20, 3) := by decide +kernel
theorem dX8_setMarker_51 : decode cX8_setMarker 51 = .ok (.iload_n 1, 1) := by decide +kernel
theorem dX8_setMarker_52 : decode cX8_setMarker 52 = .ok (.iload_n 2, 1) := by decide +kernel
theorem dX8_setMarker_53 : decode cX8_setMarker 53 = .ok (.iastore, 1) := by decide +kernel
theorem dX8_setMarker_54 : decode cX8_setMarker 54 = .ok (.iload_n 3, 1) := by decide +kernel
theorem dX8_setMarker_55 : decode cX8_setMarker 55 = .ok (.ireturn, 1) := by decide +kernel
theorem dX8_markAll_0 : decode cX8_markAll 0 = .ok (.aload_n 0, 1) := by decide +kernel
theorem dX8_markAll_1 : decode cX8_markAll 1 = .ok (.iconst 0, 1) := by decide +kernel
theorem dX8_markAll_2 : decode cX8_markAll 2 = .ok (.putfield 73, 3) := by decide +kernel
theorem dX8_markAll_5 : decode cX8_markAll 5 = .ok (.iconst 0, 1) := by decide +kernel
theorem dX8_markAll_6 : decode cX8_markAll 6 = .ok (.istore_n 1, 1) := by decide +kernel
theorem dX8_markAll_7 : decode cX8_markAll 7 = .ok (.iconst 0, 1) := by decide +kernel
theorem dX8_markAll_8 : decode cX8_markAll 8 = .ok (.istore_n 2, 1) := by decide +kernel
theorem dX8_markAll_9 : decode cX8_markAll 9 = .ok (.iload_n 2, 1) := by decide +kernel
theorem dX8_markAll_10 : decode cX8_markAll 10 = .ok (.aload_n 0, 1) := by decide +kernel
theorem dX8_markAll_11 : decode cX8_markAll 11 = .ok (.invokevirtual 76, 3) := by decide +kernel
theorem dX8_markAll_14 : decode cX8_markAll 14 = .ok (.if_icmp .ge 44, 3) := by decide +kernel
theorem dX8_markAll_17 : decode cX8_markAll 17 = .ok (.iload_n 1, 1) := by decide +kernel
theorem dX8_markAll_18 : decode cX8_markAll 18 = .ok (.aload_n 0, 1) := by decide +kernel
theorem dX8_markAll_19 : decode cX8_markAll 19 = .ok (.getfield 20, 3) := by decide +kernel
theorem dX8_markAll_22 : decode cX8_markAll 22 = .ok (.iload_n 2, 1) := by decide +kernel
theorem dX8_markAll_23 : decode cX8_markAll 23 = .ok (.iaload, 1) := by decide +kernel
theorem dX8_markAll_24 : decode cX8_markAll 24 = .ok (.aload_n 0, 1) := by decide +kernel
theorem dX8_markAll_25 : decode cX8_markAll 25 = .ok (.getfield 16, 3) := by decide +kernel
theorem dX8_markAll_28 : decode cX8_markAll 28 = .ok (.iload_n 2, 1) := by decide +kernel
theorem dX8_markAll_29 : decode cX8_markAll 29 = .ok (.iaload, 1) := by decide +kernel
theorem dX8_markAll_30 : decode cX8_markAll 30 = .ok (.if_icmp .ne 7, 3) := by decide +kernel
theorem dX8_markAll_33 : decode cX8_markAll 33 = .ok (.iconst 0, 1) := by decide +kernel
theorem dX8_markAll_34 : decode cX8_markAll 34 = .ok (.goto 4, 3) := by decide +kernel
theorem dX8_markAll_37 : decode cX8_markAll 37 = .ok (.iconst 1, 1) := by decide +kernel
theorem dX8_markAll_38 : decode cX8_markAll 38 = .ok (.iadd, 1) := by decide +kernel
theorem dX8_markAll_39 : decode cX8_markAll 39 = .ok (.istore_n 1, 1) := by decide +kernel
theorem dX8_markAll_40 : decode cX8_markAll 40 = .ok (.aload_n 0, 1) := by decide +kernel
theorem dX8_markAll_41 : decode cX8_markAll 41 = .ok (.getfield 20, 3) := by decide +kernel
theorem dX8_markAll_44 : decode cX8_markAll 44 = .ok (.iload_n 2, 1) := by decide +kernel
theorem dX8_markAll_45 : decode cX8_markAll 45 = .ok (.aload_n 0, 1) := by decide +kernel
theorem dX8_markAll_46 : decode cX8_markAll 46 = .ok (.getfield 16, 3) := by decide +kernel
theorem dX8_markAll_49 : decode cX8_markAll 49 = .ok (.iload_n 2, 1) := by decide +kernel
theorem dX8_markAll_50 : decode cX8_markAll 50 = .ok (.iaload, 1) := by decide +kernel
theorem dX8_markAll_51 : decode cX8_markAll 51 = .ok (.iastore, 1) := by decide +kernel
theorem dX8_markAll_52 : decode cX8_markAll 52 = .ok (.iinc 2 1, 3) := by decide +kernel
theorem dX8_markAll_55 : decode cX8_markAll 55 = .ok (.goto (-46), 3) := by decide +kernel
theorem dX8_markAll_58 : decode cX8_markAll 58 = .ok (.iload_n 1, 1) := by decide +kernel
theorem dX8_markAll_59 : decode cX8_markAll 59 = .ok (.ireturn, 1) := by decide +kernel
theorem dX8_level_0 : decode cX8_level 0 = .ok (.aload_n 0, 1) := by decide +kernel
theorem dX8_level_1 : decode cX8_level 1 = .ok (.aload_n 0, 1) := by decide +kernel
theorem dX8_level_2 : decode cX8_level 2 = .ok (.iload_n 1, 1) := by decide +kernel
theorem dX8_level_3 : decode cX8_level 3 = .ok (.invokevirtual 106, 3) := by decide +kernel
theorem dX8_level_6 : decode cX8_level 6 = .ok (.ifCond .eq 7, 3) := by decide +kernel
theorem dX8_level_9 : decode cX8_level 9 = .ok (.iconst 0, 1) := by decide +kernel
theorem dX8_level_10 : decode cX8_level 10 = .ok (.goto 4, 3) := by decide +kernel
theorem dX8_level_13 : decode cX8_level 13 = .ok (.iconst 1, 1) := by decide +kernel
theorem dX8_level_14 : decode cX8_level 14 = .ok (.putfield 73, 3) := by decide +kernel
theorem dX8_level_17 : decode cX8_level 17 = .ok (.aload_n 0, 1) := by decide +kernel
theorem dX8_level_18 : decode cX8_level 18 = .ok (.getfield 73, 3) := by decide +kernel
theorem dX8_level_21 : decode cX8_level 21 = .ok (.ifCond .le 7, 3) := by decide +kernel
theorem dX8_level_24 : decode cX8_level 24 = .ok (.iconst 0, 1) := by decide +kernel
theorem dX8_level_25 : decode cX8_level 25 = .ok (.goto 9, 3) := by decide +kernel
theorem dX8_level_28 : decode cX8_level 28 = .ok (.aload_n 0, 1) := by decide +kernel
theorem dX8_level_29 : decode cX8_level 29 = .ok (.getfield 16, 3) := by decide +kernel
theorem dX8_level_32 : decode cX8_level 32 = .ok (.iload_n 1, 1) := by decide +kernel
theorem dX8_level_33 : decode cX8_level 33 = .ok (.iaload, 1) := by decide +kernel
theorem dX8_level_34 : decode cX8_level 34 = .ok (.ireturn, 1) := by decide +kernel
theorem dX8_marker_0 : decode cX8_marker 0 = .ok (.aload_n 0, 1) := by decide +kernel
theorem dX8_marker_1 : decode cX8_marker 1 = .ok (.aload_n 0, 1) := by decide +kernel
theorem dX8_marker_2 : decode cX8_marker 2 = .ok (.iload_n 1, 1) := by decide +kernel
theorem dX8_marker_3 : decode cX8_marker 3 = .ok (.invokevirtual 106, 3) := by decide +kernel
theorem dX8_marker_6 : decode cX8_marker 6 = .ok (.ifCond .eq 7, 3) := by decide +kernel
theorem dX8_marker_9 : decode cX8_marker 9 = .ok (.iconst 0, 1) := by decide +kernel
theorem dX8_marker_10 : decode cX8_marker 10 = .ok (.goto 4, 3) := by decide +kernel
theorem dX8_marker_13 : decode cX8_marker 13 = .ok (.iconst 1, 1) := by decide +kernel
theorem dX8_marker_14 : decode cX8_marker 14 = .ok (.putfield 73, 3) := by decide +kernel
theorem dX8_marker_17 : decode cX8_marker 17 = .ok (.aload_n 0, 1) := by decide +kernel
theorem dX8_marker_18 : decode cX8_marker 18 = .ok (.getfield 73, 3) := by decide +kernel
theorem dX8_marker_21 : decode cX8_marker 21 = .ok (.ifCond .le 7, 3) := by decide +kernel
theorem dX8_marker_24 : decode cX8_marker 24 = .ok (.iconst 0, 1) := by decide +kernel
theorem dX8_marker_25 : decode cX8_marker 25 = .ok (.goto 9, 3) := by decide +kernel
theorem dX8_marker_28 : decode cX8_marker 28 = .ok (.aload_n 0, 1) := by decide +kernel
theorem dX8_marker_29 : decode cX8_marker 29 = .ok (.getfield 20, 3) := by decide +kernel
theorem dX8_marker_32 : decode cX8_marker 32 = .ok (.iload_n 1, 1) := by decide +kernel
theorem dX8_marker_33 : decode cX8_marker 33 = .ok (.iaload, 1) := by decide +kernel
theorem dX8_marker_34 : decode cX8_marker 34 = .ok (.ireturn, 1) := by decide +kernel
theorem dX8_difference_0 : decode cX8_difference 0 = .ok (.aload_n 0, 1) := by decide +kernel
theorem dX8_difference_1 : decode cX8_difference 1 = .ok (.iconst 0, 1) := by decide +kernel
theorem dX8_difference_2 : decode cX8_difference 2 = .ok (.putfield 73, 3) := by decide +kernel
theorem dX8_difference_5 : decode cX8_difference 5 = .ok (.iconst 0, 1) := by decide +kernel
theorem dX8_difference_6 : decode cX8_difference 6 = .ok (.istore_n 1, 1) := by decide +kernel
theorem dX8_difference_7 : decode cX8_difference 7 = .ok (.iconst 0, 1) := by decide +kernel
theorem dX8_difference_8 : decode cX8_difference 8 = .ok (.istore_n 2, 1) := by decide +kernel
theorem dX8_difference_9 : decode cX8_difference 9 = .ok (.iload_n 2, 1) := by decide +kernel
theorem dX8_difference_10 : decode cX8_difference 10 = .ok (.aload_n 0, 1) := by decide +kernel
theorem dX8_difference_11 : decode cX8_difference 11 = .ok (.invokevirtual 76, 3) := by decide +kernel
theorem dX8_difference_14 : decode cX8_difference 14 = .ok (.if_icmp .ge 27, 3) := by decide +kernel
theorem dX8_difference_17 : decode cX8_difference 17 = .ok (.iload_n 1, 1) := by decide +kernel
theorem dX8_difference_18 : decode cX8_difference 18 = .ok (.aload_n 0, 1) := by decide +kernel
theorem dX8_difference_19 : decode cX8_difference 19 = .ok (.getfield 16, 3) := by decide +kernel
theorem dX8_difference_22 : decode cX8_difference 22 = .ok (.iload_n 2, 1) := by decide +kernel
theorem dX8_difference_23 : decode cX8_difference 23 = .ok (.iaload, 1) := by decide +kernel
theorem dX8_difference_24 : decode cX8_difference 24 = .ok (.aload_n 0, 1) := by decide +kernel
theorem dX8_difference_25 : decode cX8_difference 25 = .ok (.getfield 20, 3) := by decide +kernel
theorem dX8_difference_28 : decode cX8_difference 28 = .ok (.iload_n 2, 1) := by decide +kernel
theorem dX8_difference_29 : decode cX8_difference 29 = .ok (.iaload, 1) := by decide +kernel
theorem dX8_difference_30 : decode cX8_difference 30 = .ok (.invokestatic 119, 3) := by decide +kernel
theorem dX8_difference_33 : decode cX8_difference 33 = .ok (.iadd, 1) := by decide +kernel
theorem dX8_difference_34 : decode cX8_difference 34 = .ok (.istore_n 1, 1) := by decide +kernel
theorem dX8_difference_35 : decode cX8_difference 35 = .ok (.iinc 2 1, 3) := by decide +kernel
theorem dX8_difference_38 : decode cX8_difference 38 = .ok (.goto (-29), 3) := by decide +kernel
theorem dX8_difference_41 : decode cX8_difference 41 = .ok (.iload_n 1, 1) := by decide +kernel
theorem dX8_difference_42 : decode cX8_difference 42 = .ok (.ireturn, 1) := by decide +kernel
theorem dX8_setDark_0 : decode cX8_setDark 0 = .ok (.aload_n 0, 1) := by decide +kernel
theorem dX8_setDark_1 : decode cX8_setDark 1 = .ok (.iconst 0, 1) := by decide +kernel
theorem dX8_setDark_2 : decode cX8_setDark 2 = .ok (.putfield 73, 3) := by decide +kernel
theorem dX8_setDark_5 : decode cX8_setDark 5 = .ok (.aload_n 0, 1) := by decide +kernel
theorem dX8_setDark_6 : decode cX8_setDark 6 = .ok (.getfield 84, 3) := by decide +kernel
theorem dX8_setDark_9 : decode cX8_setDark 9 = .ok (.istore_n 2, 1) := by decide +kernel
theorem dX8_setDark_10 : decode cX8_setDark 10 = .ok (.aload_n 0, 1) := by decide +kernel
theorem dX8_setDark_11 : decode cX8_setDark 11 = .ok (.iload_n 1, 1) := by decide +kernel
theorem dX8_setDark_12 : decode cX8_setDark 12 = .ok (.putfield 84, 3) := by decide +kernel
theorem dX8_setDark_15 : decode cX8_setDark 15 = .ok (.aload_n 0, 1) := by decide +kernel
theorem dX8_setDark_16 : decode cX8_setDark 16 = .ok (.iconst 0, 1) := by decide +kernel
theorem dX8_setDark_17 : decode cX8_setDark 17 = .ok (.putfield 97, 3) := by decide +kernel
theorem dX8_setDark_20 : decode cX8_setDark 20 = .ok (.iload_n 2, 1) := by decide +kernel
theorem dX8_setDark_21 : decode cX8_setDark 21 = .ok (.ireturn, 1) := by decide +kernel
theorem dX8_setEight_0 : decode cX8_setEight 0 = .ok (.aload_n 0, 1) := by decide +kernel
theorem dX8_setEight_1 : decode cX8_setEight 1 = .ok (.iconst 0, 1) := by decide +kernel
theorem dX8_setEight_2 : decode cX8_setEight 2 = .ok (.putfield 73, 3) := by decide +kernel
theorem dX8_setEight_5 : decode cX8_setEight 5 = .ok (.aload_n 0, 1) := by decide +kernel
theorem dX8_setEight_6 : decode cX8_setEight 6 = .ok (.getfield 123, 3) := by decide +kernel
theorem dX8_setEight_9 : decode cX8_setEight 9 = .ok (.istore_n 2, 1) := by decide +kernel
theorem dX8_setEight_10 : decode cX8_setEight 10 = .ok (.aload_n 0, 1) := by decide +kernel
theorem dX8_setEight_11 : decode cX8_setEight 11 = .ok (.iload_n 1, 1) := by decide +kernel
theorem dX8_setEight_12 : decode cX8_setEight 12 = .ok (.putfield 123, 3) := by decide +kernel
theorem dX8_setEight_15 : decode cX8_setEight 15 = .ok (.aload_n 0, 1) := by decide +kernel
theorem dX8_setEight_16 : decode cX8_setEight 16 = .ok (.iconst 0, 1) := by decide +kernel
theorem dX8_setEight_17 : decode cX8_setEight 17 = .ok (.putfield 97, 3) := by decide +kernel
theorem dX8_setEight_20 : decode cX8_setEight 20 = .ok (.iload_n 2, 1) := by decide +kernel
theorem dX8_setEight_21 : decode cX8_setEight 21 = .ok (.ireturn, 1) := by decide +kernel
theorem dX8_append_0 : decode cX8_append 0 = .ok (.aload_n 0, 1) := by decide +kernel
theorem dX8_append_1 : decode cX8_append 1 = .ok (.iload_n 1, 1) := by decide +kernel
theorem dX8_append_2 : decode cX8_append 2 = .ok (.bipush 32, 2) := by decide +kernel
theorem dX8_append_4 : decode cX8_append 4 = .ok (.bipush 126, 2) := by decide +kernel
theorem dX8_append_6 : decode cX8_append 6 = .ok (.invokestatic 80, 3) := by decide +kernel
theorem dX8_append_9 : decode cX8_append 9 = .ok (.ifCond .ne 7, 3) := by decide +kernel
theorem dX8_append_12 : decode cX8_append 12 = .ok (.iconst 1, 1) := by decide +kernel
theorem dX8_append_13 : decode cX8_append 13 = .ok (.goto 17, 3) := by decide +kernel
theorem dX8_append_16 : decode cX8_append 16 = .ok (.aload_n 0, 1) := by decide +kernel
theorem dX8_append_17 : decode cX8_append 17 = .ok (.getfield 126, 3) := by decide +kernel
theorem dX8_append_20 : decode cX8_append 20 = .ok (.bipush 72, 2) := by decide +kernel
theorem dX8_append_22 : decode cX8_append 22 = .ok (.if_icmp .ne 7, 3) := by decide +kernel
theorem dX8_append_25 : decode cX8_append 25 = .ok (.iconst 2, 1) := by decide +kernel
theorem dX8_append_26 : decode cX8_append 26 = .ok (.goto 4, 3) := by decide +kernel
theorem dX8_append_29 : decode cX8_append 29 = .ok (.iconst 0, 1) := by decide +kernel
theorem dX8_append_30 : decode cX8_append 30 = .ok (.putfield 73, 3) := by decide +kernel
theorem dX8_append_33 : decode cX8_append 33 = .ok (.aload_n 0, 1) := by decide +kernel
theorem dX8_append_34 : decode cX8_append 34 = .ok (.getfield 73, 3) := by decide +kernel
theorem dX8_append_37 : decode cX8_append 37 = .ok (.ifCond .le 5, 3) := by decide +kernel
theorem dX8_append_40 : decode cX8_append 40 = .ok (.iconst 0, 1) := by decide +kernel
theorem dX8_append_41 : decode cX8_append 41 = .ok (.ireturn, 1) := by decide +kernel
theorem dX8_append_42 : decode cX8_append 42 = .ok (.aload_n 0, 1) := by decide +kernel
theorem dX8_append_43 : decode cX8_append 43 = .ok (.getfield 32, 3) := by decide +kernel
theorem dX8_append_46 : decode cX8_append 46 = .ok (.aload_n 0, 1) := by decide +kernel
theorem dX8_append_47 : decode cX8_append 47 = .ok (.getfield 126, 3) := by decide +kernel
theorem dX8_append_50 : decode cX8_append 50 = .ok (.iload_n 1, 1) := by decide +kernel
theorem dX8_append_51 : decode cX8_append 51 = .ok (.iastore, 1) := by decide +kernel
theorem dX8_append_52 : decode cX8_append 52 = .ok (.aload_n 0, 1) := by decide +kernel
theorem dX8_append_53 : decode cX8_append 53 = .ok (.dup, 1) := by decide +kernel
theorem dX8_append_54 : decode cX8_append 54 = .ok (.getfield 126, 3) := by decide +kernel
theorem dX8_append_57 : decode cX8_append 57 = .ok (.iconst 1, 1) := by decide +kernel
theorem dX8_append_58 : decode cX8_append 58 = .ok (.iadd, 1) := by decide +kernel
theorem dX8_append_59 : decode cX8_append 59 = .ok (.putfield 126, 3) := by decide +kernel
theorem dX8_append_62 : decode cX8_append 62 = .ok (.aload_n 0, 1) := by decide +kernel
theorem dX8_append_63 : decode cX8_append 63 = .ok (.getfield 126, 3) := by decide +kernel
theorem dX8_append_66 : decode cX8_append 66 = .ok (.ireturn, 1) := by decide +kernel
theorem dX8_clearInput_0 : decode cX8_clearInput 0 = .ok (.aload_n 0, 1) := by decide +kernel
theorem dX8_clearInput_1 : decode cX8_clearInput 1 = .ok (.iconst 0, 1) := by decide +kernel
theorem dX8_clearInput_2 : decode cX8_clearInput 2 = .ok (.putfield 73, 3) := by decide +kernel
theorem dX8_clearInput_5 : decode cX8_clearInput 5 = .ok (.aload_n 0, 1) := by decide +kernel
theorem dX8_clearInput_6 : decode cX8_clearInput 6 = .ok (.getfield 126, 3) := by decide +kernel
theorem dX8_clearInput_9 : decode cX8_clearInput 9 = .ok (.istore_n 1, 1) := by decide +kernel
theorem dX8_clearInput_10 : decode cX8_clearInput 10 = .ok (.aload_n 0, 1) := by decide +kernel
theorem dX8_clearInput_11 : decode cX8_clearInput 11 = .ok (.iconst 0, 1) := by decide +kernel
theorem dX8_clearInput_12 : decode cX8_clearInput 12 = .ok (.putfield 126, 3) := by decide +kernel
theorem dX8_clearInput_15 : decode cX8_clearInput 15 = .ok (.iload_n 1, 1) := by decide +kernel
theorem dX8_clearInput_16 : decode cX8_clearInput 16 = .ok (.ireturn, 1) := by decide +kernel
theorem dX8_levelBy_0 : decode cX8_levelBy 0 = .ok (.iload_n 0, 1) := by decide +kernel
theorem dX8_levelBy_1 : decode cX8_levelBy 1 = .ok (.bipush 48, 2) := by decide +kernel
theorem dX8_levelBy_3 : decode cX8_levelBy 3 = .ok (.bipush 57, 2) := by decide +kernel
theorem dX8_levelBy_5 : decode cX8_levelBy 5 = .ok (.invokestatic 80, 3) := by decide +kernel
theorem dX8_levelBy_8 : decode cX8_levelBy 8 = .ok (.ifCond .eq 10, 3) := by decide +kernel
theorem dX8_levelBy_11 : decode cX8_levelBy 11 = .ok (.iload_n 0, 1) := by decide +kernel
theorem dX8_levelBy_12 : decode cX8_levelBy 12 = .ok (.bipush 48, 2) := by decide +kernel
theorem dX8_levelBy_14 : decode cX8_levelBy 14 = .ok (.isub, 1) := by decide +kernel
theorem dX8_levelBy_15 : decode cX8_levelBy 15 = .ok (.goto 25, 3) := by decide +kernel
theorem dX8_levelBy_18 : decode cX8_levelBy 18 = .ok (.iload_n 0, 1) := by decide +kernel
theorem dX8_levelBy_19 : decode cX8_levelBy 19 = .ok (.bipush 65, 2) := by decide +kernel
theorem dX8_levelBy_21 : decode cX8_levelBy 21 = .ok (.bipush 70, 2) := by decide +kernel
theorem dX8_levelBy_23 : decode cX8_levelBy 23 = .ok (.invokestatic 80, 3) := by decide +kernel
theorem dX8_levelBy_26 : decode cX8_levelBy 26 = .ok (.ifCond .eq 13, 3) := by decide +kernel
theorem dX8_levelBy_29 : decode cX8_levelBy 29 = .ok (.bipush 10, 2) := by decide +kernel
theorem dX8_levelBy_31 : decode cX8_levelBy 31 = .ok (.iload_n 0, 1) := by decide +kernel
theorem dX8_levelBy_32 : decode cX8_levelBy 32 = .ok (.iadd, 1) := by decide +kernel
theorem dX8_levelBy_33 : decode cX8_levelBy 33 = .ok (.bipush 65, 2) := by decide +kernel
theorem dX8_levelBy_35 : decode cX8_levelBy 35 = .ok (.isub, 1) := by decide +kernel
theorem dX8_levelBy_36 : decode cX8_levelBy 36 = .ok (.goto 4, 3) := by decide +kernel
theorem dX8_levelBy_39 : decode cX8_levelBy 39 = .ok (.iconst (-1), 1) := by decide +kernel
theorem dX8_levelBy_40 : decode cX8_levelBy 40 = .ok (.ireturn, 1) := by decide +kernel
theorem dX8_takes_0 : decode cX8_takes 0 = .ok (.iload_n 1, 1) := by decide +kernel
theorem dX8_takes_1 : decode cX8_takes 1 = .ok (.bipush 47, 2) := by decide +kernel
theorem dX8_takes_3 : decode cX8_takes 3 = .ok (.if_icmp .ne 82, 3) := by decide +kernel
theorem dX8_takes_6 : decode cX8_takes 6 = .ok (.aload_n 0, 1) := by decide +kernel
theorem dX8_takes_7 : decode cX8_takes 7 = .ok (.getfield 129, 3) := by decide +kernel
theorem dX8_takes_10 : decode cX8_takes 10 = .ok (.ifCond .le 34, 3) := by decide +kernel
theorem dX8_takes_13 : decode cX8_takes 13 = .ok (.aload_n 0, 1) := by decide +kernel
theorem dX8_takes_14 : decode cX8_takes 14 = .ok (.getfield 132, 3) := by decide +kernel
theorem dX8_takes_17 : decode cX8_takes 17 = .ok (.ifCond .eq 14, 3) := by decide +kernel
theorem dX8_takes_20 : decode cX8_takes 20 = .ok (.aload_n 0, 1) := by decide +kernel
theorem dX8_takes_21 : decode cX8_takes 21 = .ok (.getfield 129, 3) := by decide +kernel
theorem dX8_takes_24 : decode cX8_takes 24 = .ok (.aload_n 0, 1) := by decide +kernel
theorem dX8_takes_25 : decode cX8_takes 25 = .ok (.getfield 132, 3) := by decide +kernel
theorem dX8_takes_28 : decode cX8_takes 28 = .ok (.if_icmp .ne 16, 3) := by decide +kernel
theorem dX8_takes_31 : decode cX8_takes 31 = .ok (.aload_n 0, 1) := by decide +kernel
theorem dX8_takes_32 : decode cX8_takes 32 = .ok (.getfield 135, 3) := by decide +kernel
theorem dX8_takes_35 : decode cX8_takes 35 = .ok (.bipush 7, 2) := by decide +kernel
theorem dX8_takes_37 : decode cX8_takes 37 = .ok (.if_icmp .ge 7, 3) := by decide +kernel
theorem dX8_takes_40 : decode cX8_takes 40 = .ok (.iconst 1, 1) := by decide +kernel
theorem dX8_takes_41 : decode cX8_takes 41 = .ok (.goto 4, 3) := by decide +kernel
theorem dX8_takes_44 : decode cX8_takes 44 = .ok (.iconst 0, 1) := by decide +kernel
theorem dX8_takes_45 : decode cX8_takes 45 = .ok (.istore_n 2, 1) := by decide +kernel
theorem dX8_takes_46 : decode cX8_takes 46 = .ok (.aload_n 0, 1) := by decide +kernel
theorem dX8_takes_47 : decode cX8_takes 47 = .ok (.aload_n 0, 1) := by decide +kernel
theorem dX8_takes_48 : decode cX8_takes 48 = .ok (.getfield 132, 3) := by decide +kernel
theorem dX8_takes_51 : decode cX8_takes 51 = .ok (.ifCond .ne 10, 3) := by decide +kernel
theorem dX8_takes_54 : decode cX8_takes 54 = .ok (.aload_n 0, 1) := by decide +kernel
theorem dX8_takes_55 : decode cX8_takes 55 = .ok (.getfield 129, 3) := by decide +kernel
theorem dX8_takes_58 : decode cX8_takes 58 = .ok (.goto 7, 3) := by decide +kernel
theorem dX8_takes_61 : decode cX8_takes 61 = .ok (.aload_n 0, 1) := by decide +kernel
theorem dX8_takes_62 : decode cX8_takes 62 = .ok (.getfield 132, 3) := by decide +kernel
theorem dX8_takes_65 : decode cX8_takes 65 = .ok (.putfield 132, 3) := by decide +kernel
theorem dX8_takes_68 : decode cX8_takes 68 = .ok (.aload_n 0, 1) := by decide +kernel
theorem dX8_takes_69 : decode cX8_takes 69 = .ok (.dup, 1) := by decide +kernel
theorem dX8_takes_70 : decode cX8_takes 70 = .ok (.getfield 135, 3) := by decide +kernel
theorem dX8_takes_73 : decode cX8_takes 73 = .ok (.iconst 1, 1) := by decide +kernel
theorem dX8_takes_74 : decode cX8_takes 74 = .ok (.iadd, 1) := by decide +kernel
theorem dX8_takes_75 : decode cX8_takes 75 = .ok (.putfield 135, 3) := by decide +kernel
theorem dX8_takes_78 : decode cX8_takes 78 = .ok (.aload_n 0, 1) := by decide +kernel
theorem dX8_takes_79 : decode cX8_takes 79 = .ok (.iconst 0, 1) := by decide +kernel
theorem dX8_takes_80 : decode cX8_takes 80 = .ok (.putfield 129, 3) := by decide +kernel
theorem dX8_takes_83 : decode cX8_takes 83 = .ok (.iload_n 2, 1) := by decide +kernel
theorem dX8_takes_84 : decode cX8_takes 84 = .ok (.ireturn, 1) := by decide +kernel
theorem dX8_takes_85 : decode cX8_takes 85 = .ok (.iload_n 1, 1) := by decide +kernel
theorem dX8_takes_86 : decode cX8_takes 86 = .ok (.invokestatic 138, 3) := by decide +kernel
theorem dX8_takes_89 : decode cX8_takes 89 = .ok (.iconst (-1), 1) := by decide +kernel
theorem dX8_takes_90 : decode cX8_takes 90 = .ok (.if_icmp .eq 30, 3) := by decide +kernel
theorem dX8_takes_93 : decode cX8_takes 93 = .ok (.aload_n 0, 1) := by decide +kernel
theorem dX8_takes_94 : decode cX8_takes 94 = .ok (.getfield 129, 3) := by decide +kernel
theorem dX8_takes_97 : decode cX8_takes 97 = .ok (.aload_n 0, 1) := by decide +kernel
theorem dX8_takes_98 : decode cX8_takes 98 = .ok (.getfield 132, 3) := by decide +kernel
theorem dX8_takes_101 : decode cX8_takes 101 = .ok (.ifCond .ne 8, 3) := by decide +kernel
theorem dX8_takes_104 : decode cX8_takes 104 = .ok (.bipush 8, 2) := by decide +kernel
theorem dX8_takes_106 : decode cX8_takes 106 = .ok (.goto 7, 3) := by decide +kernel
theorem dX8_takes_109 : decode cX8_takes 109 = .ok (.aload_n 0, 1) := by decide +kernel
theorem dX8_takes_110 : decode cX8_takes 110 = .ok (.getfield 132, 3) := by decide +kernel
theorem dX8_takes_113 : decode cX8_takes 113 = .ok (.if_icmp .ge 7, 3) := by decide +kernel
theorem dX8_takes_116 : decode cX8_takes 116 = .ok (.iconst 1, 1) := by decide +kernel
theorem dX8_takes_117 : decode cX8_takes 117 = .ok (.goto 4, 3) := by decide +kernel
theorem dX8_takes_120 : decode cX8_takes 120 = .ok (.iconst 0, 1) := by decide +kernel
theorem dX8_takes_121 : decode cX8_takes 121 = .ok (.istore_n 2, 1) := by decide +kernel
theorem dX8_takes_122 : decode cX8_takes 122 = .ok (.iload_n 2, 1) := by decide +kernel
theorem dX8_takes_123 : decode cX8_takes 123 = .ok (.ifCond .eq 36, 3) := by decide +kernel
theorem dX8_takes_126 : decode cX8_takes 126 = .ok (.aload_n 0, 1) := by decide +kernel
theorem dX8_takes_127 : decode cX8_takes 127 = .ok (.getfield 35, 3) := by decide +kernel
theorem dX8_takes_130 : decode cX8_takes 130 = .ok (.aload_n 0, 1) := by decide +kernel
theorem dX8_takes_131 : decode cX8_takes 131 = .ok (.getfield 142, 3) := by decide +kernel
theorem dX8_takes_134 : decode cX8_takes 134 = .ok (.iload_n 1, 1) := by decide +kernel
theorem dX8_takes_135 : decode cX8_takes 135 = .ok (.invokestatic 138, 3) := by decide +kernel
theorem dX8_takes_138 : decode cX8_takes 138 = .ok (.iastore, 1) := by decide +kernel
theorem dX8_takes_139 : decode cX8_takes 139 = .ok (.aload_n 0, 1) := by decide +kernel
theorem dX8_takes_140 : decode cX8_takes 140 = .ok (.dup, 1) := by decide +kernel
theorem dX8_takes_141 : decode cX8_takes 141 = .ok (.getfield 142, 3) := by decide +kernel
theorem dX8_takes_144 : decode cX8_takes 144 = .ok (.iconst 1, 1) := by decide +kernel
theorem dX8_takes_145 : decode cX8_takes 145 = .ok (.iadd, 1) := by decide +kernel
theorem dX8_takes_146 : decode cX8_takes 146 = .ok (.putfield 142, 3) := by decide +kernel
theorem dX8_takes_149 : decode cX8_takes 149 = .ok (.aload_n 0, 1) := by decide +kernel
theorem dX8_takes_150 : decode cX8_takes 150 = .ok (.dup, 1) := by decide +kernel
theorem dX8_takes_151 : decode cX8_takes 151 = .ok (.getfield 129, 3) := by decide +kernel
theorem dX8_takes_154 : decode cX8_takes 154 = .ok (.iconst 1, 1) := by decide +kernel
theorem dX8_takes_155 : decode cX8_takes 155 = .ok (.iadd, 1) := by decide +kernel
theorem dX8_takes_156 : decode cX8_takes 156 = .ok (.putfield 129, 3) := by decide +kernel
theorem dX8_takes_159 : decode cX8_takes 159 = .ok (.iload_n 2, 1) := by decide +kernel
theorem dX8_takes_160 : decode cX8_takes 160 = .ok (.ireturn, 1) := by decide +kernel
theorem dX8_rightLength_0 : decode cX8_rightLength 0 = .ok (.aload_n 0, 1) := by decide +kernel
theorem dX8_rightLength_1 : decode cX8_rightLength 1 = .ok (.iconst 0, 1) := by decide +kernel
theorem dX8_rightLength_2 : decode cX8_rightLength 2 = .ok (.putfield 132, 3) := by decide +kernel
theorem dX8_rightLength_5 : decode cX8_rightLength 5 = .ok (.aload_n 0, 1) := by decide +kernel
theorem dX8_rightLength_6 : decode cX8_rightLength 6 = .ok (.iconst 0, 1) := by decide +kernel
theorem dX8_rightLength_7 : decode cX8_rightLength 7 = .ok (.putfield 135, 3) := by decide +kernel
theorem dX8_rightLength_10 : decode cX8_rightLength 10 = .ok (.aload_n 0, 1) := by decide +kernel
theorem dX8_rightLength_11 : decode cX8_rightLength 11 = .ok (.iconst 0, 1) := by decide +kernel
theorem dX8_rightLength_12 : decode cX8_rightLength 12 = .ok (.putfield 129, 3) := by decide +kernel
theorem dX8_rightLength_15 : decode cX8_rightLength 15 = .ok (.aload_n 0, 1) := by decide +kernel
theorem dX8_rightLength_16 : decode cX8_rightLength 16 = .ok (.iconst 0, 1) := by decide +kernel
theorem dX8_rightLength_17 : decode cX8_rightLength 17 = .ok (.putfield 142, 3) := by decide +kernel
theorem dX8_rightLength_20 : decode cX8_rightLength 20 = .ok (.iconst 0, 1) := by decide +kernel
theorem dX8_rightLength_21 : decode cX8_rightLength 21 = .ok (.istore_n 1, 1) := by decide +kernel
theorem dX8_rightLength_22 : decode cX8_rightLength 22 = .ok (.iload_n 1, 1) := by decide +kernel
theorem dX8_rightLength_23 : decode cX8_rightLength 23 = .ok (.aload_n 0, 1) := by decide +kernel
theorem dX8_rightLength_24 : decode cX8_rightLength 24 = .ok (.getfield 126, 3) := by decide +kernel
theorem dX8_rightLength_27 : decode cX8_rightLength 27 = .ok (.if_icmp .ge 22, 3) := by decide +kernel
theorem dX8_rightLength_30 : decode cX8_rightLength 30 = .ok (.aload_n 0, 1) := by decide +kernel
theorem dX8_rightLength_31 : decode cX8_rightLength 31 = .ok (.aload_n 0, 1) := by decide +kernel
theorem dX8_rightLength_32 : decode cX8_rightLength 32 = .ok (.getfield 32, 3) := by decide +kernel
theorem dX8_rightLength_35 : decode cX8_rightLength 35 = .ok (.iload_n 1, 1) := by decide +kernel
theorem dX8_rightLength_36 : decode cX8_rightLength 36 = .ok (.iaload, 1) := by decide +kernel
theorem dX8_rightLength_37 : decode cX8_rightLength 37 = .ok (.invokevirtual 145, 3) := by decide +kernel
theorem dX8_rightLength_40 : decode cX8_rightLength 40 = .ok (.ifCond .eq 9, 3) := by decide +kernel
theorem dX8_rightLength_43 : decode cX8_rightLength 43 = .ok (.iinc 1 1, 3) := by decide +kernel
theorem dX8_rightLength_46 : decode cX8_rightLength 46 = .ok (.goto (-24), 3) := by decide +kernel
theorem dX8_rightLength_49 : decode cX8_rightLength 49 = .ok (.iload_n 1, 1) := by decide +kernel
theorem dX8_rightLength_50 : decode cX8_rightLength 50 = .ok (.ireturn, 1) := by decide +kernel
theorem dX8_firstError_0 : decode cX8_firstError 0 = .ok (.aload_n 0, 1) := by decide +kernel
theorem dX8_firstError_1 : decode cX8_firstError 1 = .ok (.iconst 0, 1) := by decide +kernel
theorem dX8_firstError_2 : decode cX8_firstError 2 = .ok (.putfield 73, 3) := by decide +kernel
theorem dX8_firstError_5 : decode cX8_firstError 5 = .ok (.aload_n 0, 1) := by decide +kernel
theorem dX8_firstError_6 : decode cX8_firstError 6 = .ok (.invokevirtual 148, 3) := by decide +kernel
theorem dX8_firstError_9 : decode cX8_firstError 9 = .ok (.ireturn, 1) := by decide +kernel
theorem dX8_load_0 : decode cX8_load 0 = .ok (.aload_n 0, 1) := by decide +kernel
theorem dX8_load_1 : decode cX8_load 1 = .ok (.invokevirtual 148, 3) := by decide +kernel
theorem dX8_load_4 : decode cX8_load 4 = .ok (.aload_n 0, 1) := by decide +kernel
theorem dX8_load_5 : decode cX8_load 5 = .ok (.getfield 126, 3) := by decide +kernel
theorem dX8_load_8 : decode cX8_load 8 = .ok (.if_icmp .ne 32, 3) := by decide +kernel
theorem dX8_load_11 : decode cX8_load 11 = .ok (.aload_n 0, 1) := by decide +kernel
theorem dX8_load_12 : decode cX8_load 12 = .ok (.getfield 129, 3) := by decide +kernel
theorem dX8_load_15 : decode cX8_load 15 = .ok (.ifCond .le 25, 3) := by decide +kernel
theorem dX8_load_18 : decode cX8_load 18 = .ok (.aload_n 0, 1) := by decide +kernel
theorem dX8_load_19 : decode cX8_load 19 = .ok (.getfield 132, 3) := by decide +kernel
theorem dX8_load_22 : decode cX8_load 22 = .ok (.ifCond .eq 14, 3) := by decide +kernel
theorem dX8_load_25 : decode cX8_load 25 = .ok (.aload_n 0, 1) := by decide +kernel
theorem dX8_load_26 : decode cX8_load 26 = .ok (.getfield 129, 3) := by decide +kernel
theorem dX8_load_29 : decode cX8_load 29 = .ok (.aload_n 0, 1) := by decide +kernel
theorem dX8_load_30 : decode cX8_load 30 = .ok (.getfield 132, 3) := by decide +kernel
theorem dX8_load_33 : decode cX8_load 33 = .ok (.if_icmp .ne 7, 3) := by decide +kernel
theorem dX8_load_36 : decode cX8_load 36 = .ok (.iconst 1, 1) := by decide +kernel
theorem dX8_load_37 : decode cX8_load 37 = .ok (.goto 4, 3) := by decide +kernel
theorem dX8_load_40 : decode cX8_load 40 = .ok (.iconst 0, 1) := by decide +kernel
theorem dX8_load_41 : decode cX8_load 41 = .ok (.istore_n 1, 1) := by decide +kernel
theorem dX8_load_42 : decode cX8_load 42 = .ok (.aload_n 0, 1) := by decide +kernel
theorem dX8_load_43 : decode cX8_load 43 = .ok (.iload_n 1, 1) := by decide +kernel
theorem dX8_load_44 : decode cX8_load 44 = .ok (.ifCond .eq 7, 3) := by decide +kernel
theorem dX8_load_47 : decode cX8_load 47 = .ok (.iconst 0, 1) := by decide +kernel
theorem dX8_load_48 : decode cX8_load 48 = .ok (.goto 4, 3) := by decide +kernel
theorem dX8_load_51 : decode cX8_load 51 = .ok (.iconst 1, 1) := by decide +kernel
theorem dX8_load_52 : decode cX8_load 52 = .ok (.putfield 73, 3) := by decide +kernel
theorem dX8_load_55 : decode cX8_load 55 = .ok (.aload_n 0, 1) := by decide +kernel
theorem dX8_load_56 : decode cX8_load 56 = .ok (.getfield 73, 3) := by decide +kernel
theorem dX8_load_59 : decode cX8_load 59 = .ok (.ifCond .le 5, 3) := by decide +kernel
theorem dX8_load_62 : decode cX8_load 62 = .ok (.iconst 0, 1) := by decide +kernel
theorem dX8_load_63 : decode cX8_load 63 = .ok (.ireturn, 1) := by decide +kernel
theorem dX8_load_64 : decode cX8_load 64 = .ok (.aload_n 0, 1) := by decide +kernel
theorem dX8_load_65 : decode cX8_load 65 = .ok (.invokevirtual 100, 3) := by decide +kernel
theorem dX8_load_68 : decode cX8_load 68 = .ok (.aload_n 0, 1) := by decide +kernel
theorem dX8_load_69 : decode cX8_load 69 = .ok (.aload_n 0, 1) := by decide +kernel
theorem dX8_load_70 : decode cX8_load 70 = .ok (.getfield 129, 3) := by decide +kernel
theorem dX8_load_73 : decode cX8_load 73 = .ok (.aload_n 0, 1) := by decide +kernel
theorem dX8_load_74 : decode cX8_load 74 = .ok (.getfield 135, 3) := by decide +kernel
theorem dX8_load_77 : decode cX8_load 77 = .ok (.iconst 1, 1) := by decide +kernel
theorem dX8_load_78 : decode cX8_load 78 = .ok (.iadd, 1) := by decide +kernel
theorem dX8_load_79 : decode cX8_load 79 = .ok (.invokevirtual 103, 3) := by decide +kernel
theorem dX8_load_82 : decode cX8_load 82 = .ok (.iconst 0, 1) := by decide +kernel
theorem dX8_load_83 : decode cX8_load 83 = .ok (.istore_n 2, 1) := by decide +kernel
theorem dX8_load_84 : decode cX8_load 84 = .ok (.iload_n 2, 1) := by decide +kernel
theorem dX8_load_85 : decode cX8_load 85 = .ok (.aload_n 0, 1) := by decide +kernel
theorem dX8_load_86 : decode cX8_load 86 = .ok (.getfield 142, 3) := by decide +kernel
theorem dX8_load_89 : decode cX8_load 89 = .ok (.if_icmp .ge 21, 3) := by decide +kernel
theorem dX8_load_92 : decode cX8_load 92 = .ok (.aload_n 0, 1) := by decide +kernel
theorem dX8_load_93 : decode cX8_load 93 = .ok (.getfield 16, 3) := by decide +kernel
theorem dX8_load_96 : decode cX8_load 96 = .ok (.iload_n 2, 1) := by decide +kernel
theorem dX8_load_97 : decode cX8_load 97 = .ok (.aload_n 0, 1) := by decide +kernel
theorem dX8_load_98 : decode cX8_load 98 = .ok (.getfield 35, 3) := by decide +kernel
theorem dX8_load_101 : decode cX8_load 101 = .ok (.iload_n 2, 1) := by decide +kernel
theorem dX8_load_102 : decode cX8_load 102 = .ok (.iaload, 1) := by decide +kernel
theorem dX8_load_103 : decode cX8_load 103 = .ok (.iastore, 1) := by decide +kernel
theorem dX8_load_104 : decode cX8_load 104 = .ok (.iinc 2 1, 3) := by decide +kernel
theorem dX8_load_107 : decode cX8_load 107 = .ok (.goto (-23), 3) := by decide +kernel
theorem dX8_load_110 : decode cX8_load 110 = .ok (.aload_n 0, 1) := by decide +kernel
theorem dX8_load_111 : decode cX8_load 111 = .ok (.iconst 0, 1) := by decide +kernel
theorem dX8_load_112 : decode cX8_load 112 = .ok (.putfield 126, 3) := by decide +kernel
theorem dX8_load_115 : decode cX8_load 115 = .ok (.aload_n 0, 1) := by decide +kernel
theorem dX8_load_116 : decode cX8_load 116 = .ok (.invokevirtual 76, 3) := by decide +kernel
theorem dX8_load_119 : decode cX8_load 119 = .ok (.ireturn, 1) := by decide +kernel
theorem dX8_beside_0 : decode cX8_beside 0 = .ok (.lconst 0, 1) := by decide +kernel
theorem dX8_beside_1 : decode cX8_beside 1 = .ok (.lstore_n 3, 1) := by decide +kernel
theorem dX8_beside_2 : decode cX8_beside 2 = .ok (.iload_n 1, 1) := by decide +kernel
theorem dX8_beside_3 : decode cX8_beside 3 = .ok (.aload_n 0, 1) := by decide +kernel
theorem dX8_beside_4 : decode cX8_beside 4 = .ok (.getfield 7, 3) := by decide +kernel
theorem dX8_beside_7 : decode cX8_beside 7 = .ok (.irem, 1) := by decide +kernel
theorem dX8_beside_8 : decode cX8_beside 8 = .ok (.istore 5, 2) := by decide +kernel
theorem dX8_beside_10 : decode cX8_beside 10 = .ok (.iload_n 1, 1) := by decide +kernel
theorem dX8_beside_11 : decode cX8_beside 11 = .ok (.aload_n 0, 1) := by decide +kernel
theorem dX8_beside_12 : decode cX8_beside 12 = .ok (.getfield 7, 3) := by decide +kernel
theorem dX8_beside_15 : decode cX8_beside 15 = .ok (.idiv, 1) := by decide +kernel
theorem dX8_beside_16 : decode cX8_beside 16 = .ok (.istore 6, 2) := by decide +kernel
theorem dX8_beside_18 : decode cX8_beside 18 = .ok (.iconst 0, 1) := by decide +kernel
theorem dX8_beside_19 : decode cX8_beside 19 = .ok (.istore 7, 2) := by decide +kernel
theorem dX8_beside_21 : decode cX8_beside 21 = .ok (.iload 7, 2) := by decide +kernel
theorem dX8_beside_23 : decode cX8_beside 23 = .ok (.bipush 9, 2) := by decide +kernel
theorem dX8_beside_25 : decode cX8_beside 25 = .ok (.if_icmp .ge 110, 3) := by decide +kernel
theorem dX8_beside_28 : decode cX8_beside 28 = .ok (.iload 5, 2) := by decide +kernel
theorem dX8_beside_30 : decode cX8_beside 30 = .ok (.iload 7, 2) := by decide +kernel
theorem dX8_beside_32 : decode cX8_beside 32 = .ok (.iconst 3, 1) := by decide +kernel
theorem dX8_beside_33 : decode cX8_beside 33 = .ok (.irem, 1) := by decide +kernel
theorem dX8_beside_34 : decode cX8_beside 34 = .ok (.iadd, 1) := by decide +kernel
theorem dX8_beside_35 : decode cX8_beside 35 = .ok (.iconst 1, 1) := by decide +kernel
theorem dX8_beside_36 : decode cX8_beside 36 = .ok (.isub, 1) := by decide +kernel
theorem dX8_beside_37 : decode cX8_beside 37 = .ok (.istore 8, 2) := by decide +kernel
theorem dX8_beside_39 : decode cX8_beside 39 = .ok (.iload 6, 2) := by decide +kernel
theorem dX8_beside_41 : decode cX8_beside 41 = .ok (.iload 7, 2) := by decide +kernel
theorem dX8_beside_43 : decode cX8_beside 43 = .ok (.iconst 3, 1) := by decide +kernel
theorem dX8_beside_44 : decode cX8_beside 44 = .ok (.idiv, 1) := by decide +kernel
theorem dX8_beside_45 : decode cX8_beside 45 = .ok (.iadd, 1) := by decide +kernel
theorem dX8_beside_46 : decode cX8_beside 46 = .ok (.iconst 1, 1) := by decide +kernel
theorem dX8_beside_47 : decode cX8_beside 47 = .ok (.isub, 1) := by decide +kernel
theorem dX8_beside_48 : decode cX8_beside 48 = .ok (.istore 9, 2) := by decide +kernel
theorem dX8_beside_50 : decode cX8_beside 50 = .ok (.iload 7, 2) := by decide +kernel
theorem dX8_beside_52 : decode cX8_beside 52 = .ok (.iconst 4, 1) := by decide +kernel
theorem dX8_beside_53 : decode cX8_beside 53 = .ok (.if_icmp .eq 49, 3) := by decide +kernel
theorem dX8_beside_56 : decode cX8_beside 56 = .ok (.iload 7, 2) := by decide +kernel
theorem dX8_beside_58 : decode cX8_beside 58 = .ok (.iconst 2, 1) := by decide +kernel
theorem dX8_beside_59 : decode cX8_beside 59 = .ok (.irem, 1) := by decide +kernel
theorem dX8_beside_60 : decode cX8_beside 60 = .ok (.iconst 1, 1) := by decide +kernel
theorem dX8_beside_61 : decode cX8_beside 61 = .ok (.if_icmp .eq 7, 3) := by decide +kernel
theorem dX8_beside_64 : decode cX8_beside 64 = .ok (.iload_n 2, 1) := by decide +kernel
theorem dX8_beside_65 : decode cX8_beside 65 = .ok (.ifCond .eq 37, 3) := by decide +kernel
theorem dX8_beside_68 : decode cX8_beside 68 = .ok (.iload 8, 2) := by decide +kernel
theorem dX8_beside_70 : decode cX8_beside 70 = .ok (.iconst 0, 1) := by decide +kernel
theorem dX8_beside_71 : decode cX8_beside 71 = .ok (.aload_n 0, 1) := by decide +kernel
theorem dX8_beside_72 : decode cX8_beside 72 = .ok (.getfield 7, 3) := by decide +kernel
theorem dX8_beside_75 : decode cX8_beside 75 = .ok (.iconst 1, 1) := by decide +kernel
theorem dX8_beside_76 : decode cX8_beside 76 = .ok (.isub, 1) := by decide +kernel
theorem dX8_beside_77 : decode cX8_beside 77 = .ok (.invokestatic 80, 3) := by decide +kernel
theorem dX8_beside_80 : decode cX8_beside 80 = .ok (.ifCond .eq 22, 3) := by decide +kernel
theorem dX8_beside_83 : decode cX8_beside 83 = .ok (.iload 9, 2) := by decide +kernel
theorem dX8_beside_85 : decode cX8_beside 85 = .ok (.iconst 0, 1) := by decide +kernel
theorem dX8_beside_86 : decode cX8_beside 86 = .ok (.aload_n 0, 1) := by decide +kernel
theorem dX8_beside_87 : decode cX8_beside 87 = .ok (.getfield 13, 3) := by decide +kernel
theorem dX8_beside_90 : decode cX8_beside 90 = .ok (.iconst 1, 1) := by decide +kernel
theorem dX8_beside_91 : decode cX8_beside 91 = .ok (.isub, 1) := by decide +kernel
theorem dX8_beside_92 : decode cX8_beside 92 = .ok (.invokestatic 80, 3) := by decide +kernel
theorem dX8_beside_95 : decode cX8_beside 95 = .ok (.ifCond .eq 7, 3) := by decide +kernel
theorem dX8_beside_98 : decode cX8_beside 98 = .ok (.iconst 1, 1) := by decide +kernel
theorem dX8_beside_99 : decode cX8_beside 99 = .ok (.goto 4, 3) := by decide +kernel
theorem dX8_beside_102 : decode cX8_beside 102 = .ok (.iconst 0, 1) := by decide +kernel
theorem dX8_beside_103 : decode cX8_beside 103 = .ok (.istore 10, 2) := by decide +kernel
theorem dX8_beside_105 : decode cX8_beside 105 = .ok (.lload_n 3, 1) := by decide +kernel
theorem dX8_beside_106 : decode cX8_beside 106 = .ok (.iload 10, 2) := by decide +kernel
theorem dX8_beside_108 : decode cX8_beside 108 = .ok (.ifCond .eq 18, 3) := by decide +kernel
theorem dX8_beside_111 : decode cX8_beside 111 = .ok (.lconst 1, 1) := by decide +kernel
theorem dX8_beside_112 : decode cX8_beside 112 = .ok (.aload_n 0, 1) := by decide +kernel
theorem dX8_beside_113 : decode cX8_beside 113 = .ok (.getfield 7, 3) := by decide +kernel
theorem dX8_beside_116 : decode cX8_beside 116 = .ok (.iload 9, 2) := by decide +kernel
theorem dX8_beside_118 : decode cX8_beside 118 = .ok (.imul, 1) := by decide +kernel
theorem dX8_beside_119 : decode cX8_beside 119 = .ok (.iload 8, 2) := by decide +kernel
theorem dX8_beside_121 : decode cX8_beside 121 = .ok (.iadd, 1) := by decide +kernel
theorem dX8_beside_122 : decode cX8_beside 122 = .ok (.lshl, 1) := by decide +kernel
theorem dX8_beside_123 : decode cX8_beside 123 = .ok (.goto 4, 3) := by decide +kernel
theorem dX8_beside_126 : decode cX8_beside 126 = .ok (.lconst 0, 1) := by decide +kernel
theorem dX8_beside_127 : decode cX8_beside 127 = .ok (.lor, 1) := by decide +kernel
theorem dX8_beside_128 : decode cX8_beside 128 = .ok (.lstore_n 3, 1) := by decide +kernel
theorem dX8_beside_129 : decode cX8_beside 129 = .ok (.iinc 7 1, 3) := by decide +kernel
theorem dX8_beside_132 : decode cX8_beside 132 = .ok (.goto (-111), 3) := by decide +kernel
theorem dX8_beside_135 : decode cX8_beside 135 = .ok (.lload_n 3, 1) := by decide +kernel
theorem dX8_beside_136 : decode cX8_beside 136 = .ok (.lreturn, 1) := by decide +kernel
theorem dX8_spread_0 : decode cX8_spread 0 = .ok (.lconst 1, 1) := by decide +kernel
theorem dX8_spread_1 : decode cX8_spread 1 = .ok (.iload_n 1, 1) := by decide +kernel
theorem dX8_spread_2 : decode cX8_spread 2 = .ok (.lshl, 1) := by decide +kernel
theorem dX8_spread_3 : decode cX8_spread 3 = .ok (.lstore 5, 2) := by decide +kernel
theorem dX8_spread_5 : decode cX8_spread 5 = .ok (.lconst 0, 1) := by decide +kernel
theorem dX8_spread_6 : decode cX8_spread 6 = .ok (.lstore 7, 2) := by decide +kernel
theorem dX8_spread_8 : decode cX8_spread 8 = .ok (.lload 5, 2) := by decide +kernel
theorem dX8_spread_10 : decode cX8_spread 10 = .ok (.lload 7, 2) := by decide +kernel
theorem dX8_spread_12 : decode cX8_spread 12 = .ok (.lcmp, 1) := by decide +kernel
theorem dX8_spread_13 : decode cX8_spread 13 = .ok (.ifCond .eq 57, 3) := by decide +kernel
theorem dX8_spread_16 : decode cX8_spread 16 = .ok (.lload 5, 2) := by decide +kernel
theorem dX8_spread_18 : decode cX8_spread 18 = .ok (.lstore 7, 2) := by decide +kernel
theorem dX8_spread_20 : decode cX8_spread 20 = .ok (.iconst 0, 1) := by decide +kernel
theorem dX8_spread_21 : decode cX8_spread 21 = .ok (.istore 9, 2) := by decide +kernel
theorem dX8_spread_23 : decode cX8_spread 23 = .ok (.iload 9, 2) := by decide +kernel
theorem dX8_spread_25 : decode cX8_spread 25 = .ok (.aload_n 0, 1) := by decide +kernel
theorem dX8_spread_26 : decode cX8_spread 26 = .ok (.invokevirtual 76, 3) := by decide +kernel
theorem dX8_spread_29 : decode cX8_spread 29 = .ok (.if_icmp .ge 38, 3) := by decide +kernel
theorem dX8_spread_32 : decode cX8_spread 32 = .ok (.lload 5, 2) := by decide +kernel
theorem dX8_spread_34 : decode cX8_spread 34 = .ok (.lload 5, 2) := by decide +kernel
theorem dX8_spread_36 : decode cX8_spread 36 = .ok (.iload 9, 2) := by decide +kernel
theorem dX8_spread_38 : decode cX8_spread 38 = .ok (.invokestatic 151, 3) := by decide +kernel
theorem dX8_spread_41 : decode cX8_spread 41 = .ok (.ifCond .eq 16, 3) := by decide +kernel
theorem dX8_spread_44 : decode cX8_spread 44 = .ok (.aload_n 0, 1) := by decide +kernel
theorem dX8_spread_45 : decode cX8_spread 45 = .ok (.iload 9, 2) := by decide +kernel
theorem dX8_spread_47 : decode cX8_spread 47 = .ok (.iload 4, 2) := by decide +kernel
theorem dX8_spread_49 : decode cX8_spread 49 = .ok (.invokevirtual 155, 3) := by decide +kernel
theorem dX8_spread_52 : decode cX8_spread 52 = .ok (.lload_n 2, 1) := by decide +kernel
theorem dX8_spread_53 : decode cX8_spread 53 = .ok (.land, 1) := by decide +kernel
theorem dX8_spread_54 : decode cX8_spread 54 = .ok (.goto 4, 3) := by decide +kernel
theorem dX8_spread_57 : decode cX8_spread 57 = .ok (.lconst 0, 1) := by decide +kernel
theorem dX8_spread_58 : decode cX8_spread 58 = .ok (.lor, 1) := by decide +kernel
theorem dX8_spread_59 : decode cX8_spread 59 = .ok (.lstore 5, 2) := by decide +kernel
theorem dX8_spread_61 : decode cX8_spread 61 = .ok (.iinc 9 1, 3) := by decide +kernel
theorem dX8_spread_64 : decode cX8_spread 64 = .ok (.goto (-41), 3) := by decide +kernel
theorem dX8_spread_67 : decode cX8_spread 67 = .ok (.goto (-59), 3) := by decide +kernel
theorem dX8_spread_70 : decode cX8_spread 70 = .ok (.lload 5, 2) := by decide +kernel
theorem dX8_spread_72 : decode cX8_spread 72 = .ok (.lreturn, 1) := by decide +kernel
theorem dX8_ofRank_0 : decode cX8_ofRank 0 = .ok (.lconst 0, 1) := by decide +kernel
theorem dX8_ofRank_1 : decode cX8_ofRank 1 = .ok (.lstore_n 2, 1) := by decide +kernel
theorem dX8_ofRank_2 : decode cX8_ofRank 2 = .ok (.iconst 0, 1) := by decide +kernel
theorem dX8_ofRank_3 : decode cX8_ofRank 3 = .ok (.istore 4, 2) := by decide +kernel
theorem dX8_ofRank_5 : decode cX8_ofRank 5 = .ok (.iload 4, 2) := by decide +kernel
theorem dX8_ofRank_7 : decode cX8_ofRank 7 = .ok (.aload_n 0, 1) := by decide +kernel
theorem dX8_ofRank_8 : decode cX8_ofRank 8 = .ok (.invokevirtual 76, 3) := by decide +kernel
theorem dX8_ofRank_11 : decode cX8_ofRank 11 = .ok (.if_icmp .ge 35, 3) := by decide +kernel
theorem dX8_ofRank_14 : decode cX8_ofRank 14 = .ok (.lload_n 2, 1) := by decide +kernel
theorem dX8_ofRank_15 : decode cX8_ofRank 15 = .ok (.aload_n 0, 1) := by decide +kernel
theorem dX8_ofRank_16 : decode cX8_ofRank 16 = .ok (.aload_n 0, 1) := by decide +kernel
theorem dX8_ofRank_17 : decode cX8_ofRank 17 = .ok (.getfield 16, 3) := by decide +kernel
theorem dX8_ofRank_20 : decode cX8_ofRank 20 = .ok (.iload 4, 2) := by decide +kernel
theorem dX8_ofRank_22 : decode cX8_ofRank 22 = .ok (.iaload, 1) := by decide +kernel
theorem dX8_ofRank_23 : decode cX8_ofRank 23 = .ok (.invokevirtual 159, 3) := by decide +kernel
theorem dX8_ofRank_26 : decode cX8_ofRank 26 = .ok (.iload_n 1, 1) := by decide +kernel
theorem dX8_ofRank_27 : decode cX8_ofRank 27 = .ok (.if_icmp .lt 10, 3) := by decide +kernel
theorem dX8_ofRank_30 : decode cX8_ofRank 30 = .ok (.lconst 1, 1) := by decide +kernel
theorem dX8_ofRank_31 : decode cX8_ofRank 31 = .ok (.iload 4, 2) := by decide +kernel
theorem dX8_ofRank_33 : decode cX8_ofRank 33 = .ok (.lshl, 1) := by decide +kernel
theorem dX8_ofRank_34 : decode cX8_ofRank 34 = .ok (.goto 4, 3) := by decide +kernel
theorem dX8_ofRank_37 : decode cX8_ofRank 37 = .ok (.lconst 0, 1) := by decide +kernel
theorem dX8_ofRank_38 : decode cX8_ofRank 38 = .ok (.lor, 1) := by decide +kernel
theorem dX8_ofRank_39 : decode cX8_ofRank 39 = .ok (.lstore_n 2, 1) := by decide +kernel
theorem dX8_ofRank_40 : decode cX8_ofRank 40 = .ok (.iinc 4 1, 3) := by decide +kernel
theorem dX8_ofRank_43 : decode cX8_ofRank 43 = .ok (.goto (-38), 3) := by decide +kernel
theorem dX8_ofRank_46 : decode cX8_ofRank 46 = .ok (.lload_n 2, 1) := by decide +kernel
theorem dX8_ofRank_47 : decode cX8_ofRank 47 = .ok (.lreturn, 1) := by decide +kernel
theorem dX8_count1_0 : decode cX8_count1 0 = .ok (.iconst 0, 1) := by decide +kernel
theorem dX8_count1_1 : decode cX8_count1 1 = .ok (.istore_n 2, 1) := by decide +kernel
theorem dX8_count1_2 : decode cX8_count1 2 = .ok (.iconst 0, 1) := by decide +kernel
theorem dX8_count1_3 : decode cX8_count1 3 = .ok (.istore_n 3, 1) := by decide +kernel
theorem dX8_count1_4 : decode cX8_count1 4 = .ok (.iload_n 3, 1) := by decide +kernel
theorem dX8_count1_5 : decode cX8_count1 5 = .ok (.bipush 64, 2) := by decide +kernel
theorem dX8_count1_7 : decode cX8_count1 7 = .ok (.if_icmp .ge 25, 3) := by decide +kernel
theorem dX8_count1_10 : decode cX8_count1 10 = .ok (.iload_n 2, 1) := by decide +kernel
theorem dX8_count1_11 : decode cX8_count1 11 = .ok (.lload_n 0, 1) := by decide +kernel
theorem dX8_count1_12 : decode cX8_count1 12 = .ok (.iload_n 3, 1) := by decide +kernel
theorem dX8_count1_13 : decode cX8_count1 13 = .ok (.invokestatic 151, 3) := by decide +kernel
theorem dX8_count1_16 : decode cX8_count1 16 = .ok (.ifCond .eq 7, 3) := by decide +kernel
theorem dX8_count1_19 : decode cX8_count1 19 = .ok (.iconst 1, 1) := by decide +kernel
theorem dX8_count1_20 : decode cX8_count1 20 = .ok (.goto 4, 3) := by decide +kernel
theorem dX8_count1_23 : decode cX8_count1 23 = .ok (.iconst 0, 1) := by decide +kernel
theorem dX8_count1_24 : decode cX8_count1 24 = .ok (.iadd, 1) := by decide +kernel
theorem dX8_count1_25 : decode cX8_count1 25 = .ok (.istore_n 2, 1) := by decide +kernel
theorem dX8_count1_26 : decode cX8_count1 26 = .ok (.iinc 3 1, 3) := by decide +kernel
theorem dX8_count1_29 : decode cX8_count1 29 = .ok (.goto (-25), 3) := by decide +kernel
theorem dX8_count1_32 : decode cX8_count1 32 = .ok (.iload_n 2, 1) := by decide +kernel
theorem dX8_count1_33 : decode cX8_count1 33 = .ok (.ireturn, 1) := by decide +kernel
theorem dX8_isBelow_0 : decode cX8_isBelow 0 = .ok (.iload_n 1, 1) := by decide +kernel
theorem dX8_isBelow_1 : decode cX8_isBelow 1 = .ok (.iload_n 2, 1) := by decide +kernel
theorem dX8_isBelow_2 : decode cX8_isBelow 2 = .ok (.if_icmp .eq 29, 3) := by decide +kernel
theorem dX8_isBelow_5 : decode cX8_isBelow 5 = .ok (.aload_n 0, 1) := by decide +kernel
theorem dX8_isBelow_6 : decode cX8_isBelow 6 = .ok (.getfield 38, 3) := by decide +kernel
theorem dX8_isBelow_9 : decode cX8_isBelow 9 = .ok (.iload_n 1, 1) := by decide +kernel
theorem dX8_isBelow_10 : decode cX8_isBelow 10 = .ok (.laload, 1) := by decide +kernel
theorem dX8_isBelow_11 : decode cX8_isBelow 11 = .ok (.aload_n 0, 1) := by decide +kernel
theorem dX8_isBelow_12 : decode cX8_isBelow 12 = .ok (.getfield 38, 3) := by decide +kernel
theorem dX8_isBelow_15 : decode cX8_isBelow 15 = .ok (.iload_n 2, 1) := by decide +kernel
theorem dX8_isBelow_16 : decode cX8_isBelow 16 = .ok (.laload, 1) := by decide +kernel
theorem dX8_isBelow_17 : decode cX8_isBelow 17 = .ok (.ldc2_w 88, 3) := by decide +kernel
theorem dX8_isBelow_20 : decode cX8_isBelow 20 = .ok (.lxor, 1) := by decide +kernel
theorem dX8_isBelow_21 : decode cX8_isBelow 21 = .ok (.land, 1) := by decide +kernel
theorem dX8_isBelow_22 : decode cX8_isBelow 22 = .ok (.lconst 0, 1) := by decide +kernel
theorem dX8_isBelow_23 : decode cX8_isBelow 23 = .ok (.lcmp, 1) := by decide +kernel
theorem dX8_isBelow_24 : decode cX8_isBelow 24 = .ok (.ifCond .ne 7, 3) := by decide +kernel
theorem dX8_isBelow_27 : decode cX8_isBelow 27 = .ok (.iconst 1, 1) := by decide +kernel
theorem dX8_isBelow_28 : decode cX8_isBelow 28 = .ok (.goto 4, 3) := by decide +kernel
theorem dX8_isBelow_31 : decode cX8_isBelow 31 = .ok (.iconst 0, 1) := by decide +kernel
theorem dX8_isBelow_32 : decode cX8_isBelow 32 = .ok (.ireturn, 1) := by decide +kernel
theorem dX8_layTree_0 : decode cX8_layTree 0 = .ok (.aload_n 0, 1) := by decide +kernel
theorem dX8_layTree_1 : decode cX8_layTree 1 = .ok (.getfield 97, 3) := by decide +kernel
theorem dX8_layTree_4 : decode cX8_layTree 4 = .ok (.ifCond .eq 4, 3) := by decide +kernel
theorem dX8_layTree_7 : decode cX8_layTree 7 = .ok (.return_, 1) := by decide +kernel
theorem dX8_layTree_8 : decode cX8_layTree 8 = .ok (.aload_n 0, 1) := by decide +kernel
theorem dX8_layTree_9 : decode cX8_layTree 9 = .ok (.iconst 1, 1) := by decide +kernel
theorem dX8_layTree_10 : decode cX8_layTree 10 = .ok (.putfield 97, 3) := by decide +kernel
theorem dX8_layTree_13 : decode cX8_layTree 13 = .ok (.aload_n 0, 1) := by decide +kernel
theorem dX8_layTree_14 : decode cX8_layTree 14 = .ok (.iconst 0, 1) := by decide +kernel
theorem dX8_layTree_15 : decode cX8_layTree 15 = .ok (.putfield 116, 3) := by decide +kernel
theorem dX8_layTree_18 : decode cX8_layTree 18 = .ok (.iconst 0, 1) := by decide +kernel
theorem dX8_layTree_19 : decode cX8_layTree 19 = .ok (.istore_n 1, 1) := by decide +kernel
theorem dX8_layTree_20 : decode cX8_layTree 20 = .ok (.iload_n 1, 1) := by decide +kernel
theorem dX8_layTree_21 : decode cX8_layTree 21 = .ok (.bipush 15, 2) := by decide +kernel
theorem dX8_layTree_23 : decode cX8_layTree 23 = .ok (.if_icmp .gt 26, 3) := by decide +kernel
theorem dX8_layTree_26 : decode cX8_layTree 26 = .ok (.aload_n 0, 1) := by decide +kernel
theorem dX8_layTree_27 : decode cX8_layTree 27 = .ok (.iload_n 1, 1) := by decide +kernel
theorem dX8_layTree_28 : decode cX8_layTree 28 = .ok (.aload_n 0, 1) := by decide +kernel
theorem dX8_layTree_29 : decode cX8_layTree 29 = .ok (.iload_n 1, 1) := by decide +kernel
theorem dX8_layTree_30 : decode cX8_layTree 30 = .ok (.invokevirtual 162, 3) := by decide +kernel
theorem dX8_layTree_33 : decode cX8_layTree 33 = .ok (.aload_n 0, 1) := by decide +kernel
theorem dX8_layTree_34 : decode cX8_layTree 34 = .ok (.iload_n 1, 1) := by decide +kernel
theorem dX8_layTree_35 : decode cX8_layTree 35 = .ok (.iconst 1, 1) := by decide +kernel
theorem dX8_layTree_36 : decode cX8_layTree 36 = .ok (.iadd, 1) := by decide +kernel
theorem dX8_layTree_37 : decode cX8_layTree 37 = .ok (.invokevirtual 162, 3) := by decide +kernel
theorem dX8_layTree_40 : decode cX8_layTree 40 = .ok (.invokevirtual 166, 3) := by decide +kernel
theorem dX8_layTree_43 : decode cX8_layTree 43 = .ok (.iinc 1 1, 3) := by decide +kernel
theorem dX8_layTree_46 : decode cX8_layTree 46 = .ok (.goto (-26), 3) := by decide +kernel
theorem dX8_layTree_49 : decode cX8_layTree 49 = .ok (.iconst 0, 1) := by decide +kernel
theorem dX8_layTree_50 : decode cX8_layTree 50 = .ok (.istore_n 1, 1) := by decide +kernel
theorem dX8_layTree_51 : decode cX8_layTree 51 = .ok (.iload_n 1, 1) := by decide +kernel
theorem dX8_layTree_52 : decode cX8_layTree 52 = .ok (.aload_n 0, 1) := by decide +kernel
theorem dX8_layTree_53 : decode cX8_layTree 53 = .ok (.getfield 116, 3) := by decide +kernel
theorem dX8_layTree_56 : decode cX8_layTree 56 = .ok (.if_icmp .ge 123, 3) := by decide +kernel
theorem dX8_layTree_59 : decode cX8_layTree 59 = .ok (.aload_n 0, 1) := by decide +kernel
theorem dX8_layTree_60 : decode cX8_layTree 60 = .ok (.getfield 45, 3) := by decide +kernel
theorem dX8_layTree_63 : decode cX8_layTree 63 = .ok (.iload_n 1, 1) := by decide +kernel
theorem dX8_layTree_64 : decode cX8_layTree 64 = .ok (.iconst (-1), 1) := by decide +kernel
theorem dX8_layTree_65 : decode cX8_layTree 65 = .ok (.iastore, 1) := by decide +kernel
theorem dX8_layTree_66 : decode cX8_layTree 66 = .ok (.aload_n 0, 1) := by decide +kernel
theorem dX8_layTree_67 : decode cX8_layTree 67 = .ok (.getfield 48, 3) := by decide +kernel
theorem dX8_layTree_70 : decode cX8_layTree 70 = .ok (.iload_n 1, 1) := by decide +kernel
theorem dX8_layTree_71 : decode cX8_layTree 71 = .ok (.iconst 0, 1) := by decide +kernel
theorem dX8_layTree_72 : decode cX8_layTree 72 = .ok (.iastore, 1) := by decide +kernel
theorem dX8_layTree_73 : decode cX8_layTree 73 = .ok (.iconst 0, 1) := by decide +kernel
theorem dX8_layTree_74 : decode cX8_layTree 74 = .ok (.istore_n 2, 1) := by decide +kernel
theorem dX8_layTree_75 : decode cX8_layTree 75 = .ok (.iload_n 2, 1) := by decide +kernel
theorem dX8_layTree_76 : decode cX8_layTree 76 = .ok (.aload_n 0, 1) := by decide +kernel
theorem dX8_layTree_77 : decode cX8_layTree 77 = .ok (.getfield 116, 3) := by decide +kernel
theorem dX8_layTree_80 : decode cX8_layTree 80 = .ok (.if_icmp .ge 68, 3) := by decide +kernel
theorem dX8_layTree_83 : decode cX8_layTree 83 = .ok (.aload_n 0, 1) := by decide +kernel
theorem dX8_layTree_84 : decode cX8_layTree 84 = .ok (.iload_n 1, 1) := by decide +kernel
theorem dX8_layTree_85 : decode cX8_layTree 85 = .ok (.iload_n 2, 1) := by decide +kernel
theorem dX8_layTree_86 : decode cX8_layTree 86 = .ok (.invokevirtual 170, 3) := by decide +kernel
theorem dX8_layTree_89 : decode cX8_layTree 89 = .ok (.ifCond .eq 31, 3) := by decide +kernel
theorem dX8_layTree_92 : decode cX8_layTree 92 = .ok (.aload_n 0, 1) := by decide +kernel
theorem dX8_layTree_93 : decode cX8_layTree 93 = .ok (.getfield 45, 3) := by decide +kernel
theorem dX8_layTree_96 : decode cX8_layTree 96 = .ok (.iload_n 1, 1) := by decide +kernel
theorem dX8_layTree_97 : decode cX8_layTree 97 = .ok (.iaload, 1) := by decide +kernel
theorem dX8_layTree_98 : decode cX8_layTree 98 = .ok (.iconst (-1), 1) := by decide +kernel
theorem dX8_layTree_99 : decode cX8_layTree 99 = .ok (.if_icmp .eq 17, 3) := by decide +kernel
theorem dX8_layTree_102 : decode cX8_layTree 102 = .ok (.aload_n 0, 1) := by decide +kernel
theorem dX8_layTree_103 : decode cX8_layTree 103 = .ok (.iload_n 2, 1) := by decide +kernel
theorem dX8_layTree_104 : decode cX8_layTree 104 = .ok (.aload_n 0, 1) := by decide +kernel
theorem dX8_layTree_105 : decode cX8_layTree 105 = .ok (.getfield 45, 3) := by decide +kernel
theorem dX8_layTree_108 : decode cX8_layTree 108 = .ok (.iload_n 1, 1) := by decide +kernel
theorem dX8_layTree_109 : decode cX8_layTree 109 = .ok (.iaload, 1) := by decide +kernel
theorem dX8_layTree_110 : decode cX8_layTree 110 = .ok (.invokevirtual 170, 3) := by decide +kernel
theorem dX8_layTree_113 : decode cX8_layTree 113 = .ok (.ifCond .eq 7, 3) := by decide +kernel
theorem dX8_layTree_116 : decode cX8_layTree 116 = .ok (.iconst 1, 1) := by decide +kernel
theorem dX8_layTree_117 : decode cX8_layTree 117 = .ok (.goto 4, 3) := by decide +kernel
theorem dX8_layTree_120 : decode cX8_layTree 120 = .ok (.iconst 0, 1) := by decide +kernel
theorem dX8_layTree_121 : decode cX8_layTree 121 = .ok (.istore_n 3, 1) := by decide +kernel
theorem dX8_layTree_122 : decode cX8_layTree 122 = .ok (.aload_n 0, 1) := by decide +kernel
theorem dX8_layTree_123 : decode cX8_layTree 123 = .ok (.getfield 45, 3) := by decide +kernel
theorem dX8_layTree_126 : decode cX8_layTree 126 = .ok (.iload_n 1, 1) := by decide +kernel
theorem dX8_layTree_127 : decode cX8_layTree 127 = .ok (.iload_n 3, 1) := by decide +kernel
theorem dX8_layTree_128 : decode cX8_layTree 128 = .ok (.ifCond .eq 7, 3) := by decide +kernel
theorem dX8_layTree_131 : decode cX8_layTree 131 = .ok (.iload_n 2, 1) := by decide +kernel
theorem dX8_layTree_132 : decode cX8_layTree 132 = .ok (.goto 9, 3) := by decide +kernel
theorem dX8_layTree_135 : decode cX8_layTree 135 = .ok (.aload_n 0, 1) := by decide +kernel
theorem dX8_layTree_136 : decode cX8_layTree 136 = .ok (.getfield 45, 3) := by decide +kernel
theorem dX8_layTree_139 : decode cX8_layTree 139 = .ok (.iload_n 1, 1) := by decide +kernel
theorem dX8_layTree_140 : decode cX8_layTree 140 = .ok (.iaload, 1) := by decide +kernel
theorem dX8_layTree_141 : decode cX8_layTree 141 = .ok (.iastore, 1) := by decide +kernel
theorem dX8_layTree_142 : decode cX8_layTree 142 = .ok (.iinc 2 1, 3) := by decide +kernel
theorem dX8_layTree_145 : decode cX8_layTree 145 = .ok (.goto (-70), 3) := by decide +kernel
theorem dX8_layTree_148 : decode cX8_layTree 148 = .ok (.aload_n 0, 1) := by decide +kernel
theorem dX8_layTree_149 : decode cX8_layTree 149 = .ok (.getfield 45, 3) := by decide +kernel
theorem dX8_layTree_152 : decode cX8_layTree 152 = .ok (.iload_n 1, 1) := by decide +kernel
theorem dX8_layTree_153 : decode cX8_layTree 153 = .ok (.iaload, 1) := by decide +kernel
theorem dX8_layTree_154 : decode cX8_layTree 154 = .ok (.iconst (-1), 1) := by decide +kernel
theorem dX8_layTree_155 : decode cX8_layTree 155 = .ok (.if_icmp .eq 18, 3) := by decide +kernel
theorem dX8_layTree_158 : decode cX8_layTree 158 = .ok (.aload_n 0, 1) := by decide +kernel
theorem dX8_layTree_159 : decode cX8_layTree 159 = .ok (.getfield 48, 3) := by decide +kernel
theorem dX8_layTree_162 : decode cX8_layTree 162 = .ok (.aload_n 0, 1) := by decide +kernel
theorem dX8_layTree_163 : decode cX8_layTree 163 = .ok (.getfield 45, 3) := by decide +kernel
theorem dX8_layTree_166 : decode cX8_layTree 166 = .ok (.iload_n 1, 1) := by decide +kernel
theorem dX8_layTree_167 : decode cX8_layTree 167 = .ok (.iaload, 1) := by decide +kernel
theorem dX8_layTree_168 : decode cX8_layTree 168 = .ok (.dup2, 1) := by decide +kernel
theorem dX8_layTree_169 : decode cX8_layTree 169 = .ok (.iaload, 1) := by decide +kernel
theorem dX8_layTree_170 : decode cX8_layTree 170 = .ok (.iconst 1, 1) := by decide +kernel
theorem dX8_layTree_171 : decode cX8_layTree 171 = .ok (.iadd, 1) := by decide +kernel
theorem dX8_layTree_172 : decode cX8_layTree 172 = .ok (.iastore, 1) := by decide +kernel
theorem dX8_layTree_173 : decode cX8_layTree 173 = .ok (.iinc 1 1, 3) := by decide +kernel
theorem dX8_layTree_176 : decode cX8_layTree 176 = .ok (.goto (-125), 3) := by decide +kernel
theorem dX8_layTree_179 : decode cX8_layTree 179 = .ok (.aload_n 0, 1) := by decide +kernel
theorem dX8_layTree_180 : decode cX8_layTree 180 = .ok (.invokevirtual 174, 3) := by decide +kernel
theorem dX8_layTree_183 : decode cX8_layTree 183 = .ok (.return_, 1) := by decide +kernel
theorem dX8_layRank_0 : decode cX8_layRank 0 = .ok (.lload_n 2, 1) := by decide +kernel
theorem dX8_layRank_1 : decode cX8_layRank 1 = .ok (.lload 4, 2) := by decide +kernel
theorem dX8_layRank_3 : decode cX8_layRank 3 = .ok (.ldc2_w 88, 3) := by decide +kernel
theorem dX8_layRank_6 : decode cX8_layRank 6 = .ok (.lxor, 1) := by decide +kernel
theorem dX8_layRank_7 : decode cX8_layRank 7 = .ok (.land, 1) := by decide +kernel
theorem dX8_layRank_8 : decode cX8_layRank 8 = .ok (.lstore 6, 2) := by decide +kernel
theorem dX8_layRank_10 : decode cX8_layRank 10 = .ok (.iconst 0, 1) := by decide +kernel
theorem dX8_layRank_11 : decode cX8_layRank 11 = .ok (.istore 8, 2) := by decide +kernel
theorem dX8_layRank_13 : decode cX8_layRank 13 = .ok (.iload 8, 2) := by decide +kernel
theorem dX8_layRank_15 : decode cX8_layRank 15 = .ok (.aload_n 0, 1) := by decide +kernel
theorem dX8_layRank_16 : decode cX8_layRank 16 = .ok (.invokevirtual 76, 3) := by decide +kernel
theorem dX8_layRank_19 : decode cX8_layRank 19 = .ok (.if_icmp .ge 90, 3) := by decide +kernel
theorem dX8_layRank_22 : decode cX8_layRank 22 = .ok (.lload_n 2, 1) := by decide +kernel
theorem dX8_layRank_23 : decode cX8_layRank 23 = .ok (.iload 8, 2) := by decide +kernel
theorem dX8_layRank_25 : decode cX8_layRank 25 = .ok (.invokestatic 151, 3) := by decide +kernel
theorem dX8_layRank_28 : decode cX8_layRank 28 = .ok (.ifCond .eq 17, 3) := by decide +kernel
theorem dX8_layRank_31 : decode cX8_layRank 31 = .ok (.aload_n 0, 1) := by decide +kernel
theorem dX8_layRank_32 : decode cX8_layRank 32 = .ok (.iload 8, 2) := by decide +kernel
theorem dX8_layRank_34 : decode cX8_layRank 34 = .ok (.lload_n 2, 1) := by decide +kernel
theorem dX8_layRank_35 : decode cX8_layRank 35 = .ok (.aload_n 0, 1) := by decide +kernel
theorem dX8_layRank_36 : decode cX8_layRank 36 = .ok (.getfield 123, 3) := by decide +kernel
theorem dX8_layRank_39 : decode cX8_layRank 39 = .ok (.invokevirtual 177, 3) := by decide +kernel
theorem dX8_layRank_42 : decode cX8_layRank 42 = .ok (.goto 4, 3) := by decide +kernel
theorem dX8_layRank_45 : decode cX8_layRank 45 = .ok (.lconst 0, 1) := by decide +kernel
theorem dX8_layRank_46 : decode cX8_layRank 46 = .ok (.lstore 9, 2) := by decide +kernel
theorem dX8_layRank_48 : decode cX8_layRank 48 = .ok (.lload 9, 2) := by decide +kernel
theorem dX8_layRank_50 : decode cX8_layRank 50 = .ok (.lconst 1, 1) := by decide +kernel
theorem dX8_layRank_51 : decode cX8_layRank 51 = .ok (.iload 8, 2) := by decide +kernel
theorem dX8_layRank_53 : decode cX8_layRank 53 = .ok (.lshl, 1) := by decide +kernel
theorem dX8_layRank_54 : decode cX8_layRank 54 = .ok (.lconst 1, 1) := by decide +kernel
theorem dX8_layRank_55 : decode cX8_layRank 55 = .ok (.lsub, 1) := by decide +kernel
theorem dX8_layRank_56 : decode cX8_layRank 56 = .ok (.land, 1) := by decide +kernel
theorem dX8_layRank_57 : decode cX8_layRank 57 = .ok (.lconst 0, 1) := by decide +kernel
theorem dX8_layRank_58 : decode cX8_layRank 58 = .ok (.lcmp, 1) := by decide +kernel
theorem dX8_layRank_59 : decode cX8_layRank 59 = .ok (.ifCond .ne 44, 3) := by decide +kernel
theorem dX8_layRank_62 : decode cX8_layRank 62 = .ok (.lload 9, 2) := by decide +kernel
theorem dX8_layRank_64 : decode cX8_layRank 64 = .ok (.lload 6, 2) := by decide +kernel
theorem dX8_layRank_66 : decode cX8_layRank 66 = .ok (.land, 1) := by decide +kernel
theorem dX8_layRank_67 : decode cX8_layRank 67 = .ok (.lconst 0, 1) := by decide +kernel
theorem dX8_layRank_68 : decode cX8_layRank 68 = .ok (.lcmp, 1) := by decide +kernel
theorem dX8_layRank_69 : decode cX8_layRank 69 = .ok (.ifCond .eq 34, 3) := by decide +kernel
theorem dX8_layRank_72 : decode cX8_layRank 72 = .ok (.aload_n 0, 1) := by decide +kernel
theorem dX8_layRank_73 : decode cX8_layRank 73 = .ok (.getfield 38, 3) := by decide +kernel
theorem dX8_layRank_76 : decode cX8_layRank 76 = .ok (.aload_n 0, 1) := by decide +kernel
theorem dX8_layRank_77 : decode cX8_layRank 77 = .ok (.getfield 116, 3) := by decide +kernel
theorem dX8_layRank_80 : decode cX8_layRank 80 = .ok (.lload 9, 2) := by decide +kernel
theorem dX8_layRank_82 : decode cX8_layRank 82 = .ok (.lastore, 1) := by decide +kernel
theorem dX8_layRank_83 : decode cX8_layRank 83 = .ok (.aload_n 0, 1) := by decide +kernel
theorem dX8_layRank_84 : decode cX8_layRank 84 = .ok (.getfield 42, 3) := by decide +kernel
theorem dX8_layRank_87 : decode cX8_layRank 87 = .ok (.aload_n 0, 1) := by decide +kernel
theorem dX8_layRank_88 : decode cX8_layRank 88 = .ok (.getfield 116, 3) := by decide +kernel
theorem dX8_layRank_91 : decode cX8_layRank 91 = .ok (.iload_n 1, 1) := by decide +kernel
theorem dX8_layRank_92 : decode cX8_layRank 92 = .ok (.iastore, 1) := by decide +kernel
theorem dX8_layRank_93 : decode cX8_layRank 93 = .ok (.aload_n 0, 1) := by decide +kernel
theorem dX8_layRank_94 : decode cX8_layRank 94 = .ok (.dup, 1) := by decide +kernel
theorem dX8_layRank_95 : decode cX8_layRank 95 = .ok (.getfield 116, 3) := by decide +kernel
theorem dX8_layRank_98 : decode cX8_layRank 98 = .ok (.iconst 1, 1) := by decide +kernel
theorem dX8_layRank_99 : decode cX8_layRank 99 = .ok (.iadd, 1) := by decide +kernel
theorem dX8_layRank_100 : decode cX8_layRank 100 = .ok (.putfield 116, 3) := by decide +kernel
theorem dX8_layRank_103 : decode cX8_layRank 103 = .ok (.iinc 8 1, 3) := by decide +kernel
theorem dX8_layRank_106 : decode cX8_layRank 106 = .ok (.goto (-93), 3) := by decide +kernel
theorem dX8_layRank_109 : decode cX8_layRank 109 = .ok (.iconst 0, 1) := by decide +kernel
theorem dX8_layRank_110 : decode cX8_layRank 110 = .ok (.istore 8, 2) := by decide +kernel
theorem dX8_layRank_112 : decode cX8_layRank 112 = .ok (.iload 8, 2) := by decide +kernel
theorem dX8_layRank_114 : decode cX8_layRank 114 = .ok (.aload_n 0, 1) := by decide +kernel
theorem dX8_layRank_115 : decode cX8_layRank 115 = .ok (.invokevirtual 76, 3) := by decide +kernel
theorem dX8_layRank_118 : decode cX8_layRank 118 = .ok (.if_icmp .ge 82, 3) := by decide +kernel
theorem dX8_layRank_121 : decode cX8_layRank 121 = .ok (.iconst 0, 1) := by decide +kernel
theorem dX8_layRank_122 : decode cX8_layRank 122 = .ok (.istore 9, 2) := by decide +kernel
theorem dX8_layRank_124 : decode cX8_layRank 124 = .ok (.iload 9, 2) := by decide +kernel
theorem dX8_layRank_126 : decode cX8_layRank 126 = .ok (.aload_n 0, 1) := by decide +kernel
theorem dX8_layRank_127 : decode cX8_layRank 127 = .ok (.getfield 116, 3) := by decide +kernel
theorem dX8_layRank_130 : decode cX8_layRank 130 = .ok (.if_icmp .ge 64, 3) := by decide +kernel
theorem dX8_layRank_133 : decode cX8_layRank 133 = .ok (.lload 6, 2) := by decide +kernel
theorem dX8_layRank_135 : decode cX8_layRank 135 = .ok (.iload 8, 2) := by decide +kernel
theorem dX8_layRank_137 : decode cX8_layRank 137 = .ok (.invokestatic 151, 3) := by decide +kernel
theorem dX8_layRank_140 : decode cX8_layRank 140 = .ok (.ifCond .eq 54, 3) := by decide +kernel
theorem dX8_layRank_143 : decode cX8_layRank 143 = .ok (.aload_n 0, 1) := by decide +kernel
theorem dX8_layRank_144 : decode cX8_layRank 144 = .ok (.getfield 51, 3) := by decide +kernel
theorem dX8_layRank_147 : decode cX8_layRank 147 = .ok (.iload 8, 2) := by decide +kernel
theorem dX8_layRank_149 : decode cX8_layRank 149 = .ok (.aload_n 0, 1) := by decide +kernel
theorem dX8_layRank_150 : decode cX8_layRank 150 = .ok (.getfield 42, 3) := by decide +kernel
theorem dX8_layRank_153 : decode cX8_layRank 153 = .ok (.iload 9, 2) := by decide +kernel
theorem dX8_layRank_155 : decode cX8_layRank 155 = .ok (.iaload, 1) := by decide +kernel
theorem dX8_layRank_156 : decode cX8_layRank 156 = .ok (.iload_n 1, 1) := by decide +kernel
theorem dX8_layRank_157 : decode cX8_layRank 157 = .ok (.if_icmp .ne 23, 3) := by decide +kernel
theorem dX8_layRank_160 : decode cX8_layRank 160 = .ok (.aload_n 0, 1) := by decide +kernel
theorem dX8_layRank_161 : decode cX8_layRank 161 = .ok (.getfield 38, 3) := by decide +kernel
theorem dX8_layRank_164 : decode cX8_layRank 164 = .ok (.iload 9, 2) := by decide +kernel
theorem dX8_layRank_166 : decode cX8_layRank 166 = .ok (.laload, 1) := by decide +kernel
theorem dX8_layRank_167 : decode cX8_layRank 167 = .ok (.iload 8, 2) := by decide +kernel
theorem dX8_layRank_169 : decode cX8_layRank 169 = .ok (.invokestatic 151, 3) := by decide +kernel
theorem dX8_layRank_172 : decode cX8_layRank 172 = .ok (.ifCond .eq 8, 3) := by decide +kernel
theorem dX8_layRank_175 : decode cX8_layRank 175 = .ok (.iload 9, 2) := by decide +kernel
theorem dX8_layRank_177 : decode cX8_layRank 177 = .ok (.goto 10, 3) := by decide +kernel
theorem dX8_layRank_180 : decode cX8_layRank 180 = .ok (.aload_n 0, 1) := by decide +kernel
theorem dX8_layRank_181 : decode cX8_layRank 181 = .ok (.getfield 51, 3) := by decide +kernel
theorem dX8_layRank_184 : decode cX8_layRank 184 = .ok (.iload 8, 2) := by decide +kernel
theorem dX8_layRank_186 : decode cX8_layRank 186 = .ok (.iaload, 1) := by decide +kernel
theorem dX8_layRank_187 : decode cX8_layRank 187 = .ok (.iastore, 1) := by decide +kernel
theorem dX8_layRank_188 : decode cX8_layRank 188 = .ok (.iinc 9 1, 3) := by decide +kernel
theorem dX8_layRank_191 : decode cX8_layRank 191 = .ok (.goto (-67), 3) := by decide +kernel
theorem dX8_layRank_194 : decode cX8_layRank 194 = .ok (.iinc 8 1, 3) := by decide +kernel
theorem dX8_layRank_197 : decode cX8_layRank 197 = .ok (.goto (-85), 3) := by decide +kernel
theorem dX8_layRank_200 : decode cX8_layRank 200 = .ok (.return_, 1) := by decide +kernel
theorem dX8_isLeaf_0 : decode cX8_isLeaf 0 = .ok (.aload_n 0, 1) := by decide +kernel
theorem dX8_isLeaf_1 : decode cX8_isLeaf 1 = .ok (.getfield 48, 3) := by decide +kernel
theorem dX8_isLeaf_4 : decode cX8_isLeaf 4 = .ok (.iload_n 1, 1) := by decide +kernel
theorem dX8_isLeaf_5 : decode cX8_isLeaf 5 = .ok (.iaload, 1) := by decide +kernel
theorem dX8_isLeaf_6 : decode cX8_isLeaf 6 = .ok (.ifCond .ne 7, 3) := by decide +kernel
theorem dX8_isLeaf_9 : decode cX8_isLeaf 9 = .ok (.iconst 1, 1) := by decide +kernel
theorem dX8_isLeaf_10 : decode cX8_isLeaf 10 = .ok (.goto 4, 3) := by decide +kernel
theorem dX8_isLeaf_13 : decode cX8_isLeaf 13 = .ok (.iconst 0, 1) := by decide +kernel
theorem dX8_isLeaf_14 : decode cX8_isLeaf 14 = .ok (.ireturn, 1) := by decide +kernel
theorem dX8_isHigher_0 : decode cX8_isHigher 0 = .ok (.aload_n 0, 1) := by decide +kernel
theorem dX8_isHigher_1 : decode cX8_isHigher 1 = .ok (.getfield 42, 3) := by decide +kernel
theorem dX8_isHigher_4 : decode cX8_isHigher 4 = .ok (.iload_n 1, 1) := by decide +kernel
theorem dX8_isHigher_5 : decode cX8_isHigher 5 = .ok (.iaload, 1) := by decide +kernel
theorem dX8_isHigher_6 : decode cX8_isHigher 6 = .ok (.aload_n 0, 1) := by decide +kernel
theorem dX8_isHigher_7 : decode cX8_isHigher 7 = .ok (.getfield 42, 3) := by decide +kernel
theorem dX8_isHigher_10 : decode cX8_isHigher 10 = .ok (.iload_n 2, 1) := by decide +kernel
theorem dX8_isHigher_11 : decode cX8_isHigher 11 = .ok (.iaload, 1) := by decide +kernel
theorem dX8_isHigher_12 : decode cX8_isHigher 12 = .ok (.if_icmp .gt 23, 3) := by decide +kernel
theorem dX8_isHigher_15 : decode cX8_isHigher 15 = .ok (.aload_n 0, 1) := by decide +kernel
theorem dX8_isHigher_16 : decode cX8_isHigher 16 = .ok (.getfield 42, 3) := by decide +kernel
theorem dX8_isHigher_19 : decode cX8_isHigher 19 = .ok (.iload_n 1, 1) := by decide +kernel
theorem dX8_isHigher_20 : decode cX8_isHigher 20 = .ok (.iaload, 1) := by decide +kernel
theorem dX8_isHigher_21 : decode cX8_isHigher 21 = .ok (.aload_n 0, 1) := by decide +kernel
theorem dX8_isHigher_22 : decode cX8_isHigher 22 = .ok (.getfield 42, 3) := by decide +kernel
theorem dX8_isHigher_25 : decode cX8_isHigher 25 = .ok (.iload_n 2, 1) := by decide +kernel
theorem dX8_isHigher_26 : decode cX8_isHigher 26 = .ok (.iaload, 1) := by decide +kernel
theorem dX8_isHigher_27 : decode cX8_isHigher 27 = .ok (.if_icmp .ne 12, 3) := by decide +kernel
theorem dX8_isHigher_30 : decode cX8_isHigher 30 = .ok (.iload_n 1, 1) := by decide +kernel
theorem dX8_isHigher_31 : decode cX8_isHigher 31 = .ok (.iload_n 2, 1) := by decide +kernel
theorem dX8_isHigher_32 : decode cX8_isHigher 32 = .ok (.if_icmp .ge 7, 3) := by decide +kernel
theorem dX8_isHigher_35 : decode cX8_isHigher 35 = .ok (.iconst 1, 1) := by decide +kernel
theorem dX8_isHigher_36 : decode cX8_isHigher 36 = .ok (.goto 4, 3) := by decide +kernel
theorem dX8_isHigher_39 : decode cX8_isHigher 39 = .ok (.iconst 0, 1) := by decide +kernel
theorem dX8_isHigher_40 : decode cX8_isHigher 40 = .ok (.ireturn, 1) := by decide +kernel
theorem dX8_prominenceOf_0 : decode cX8_prominenceOf 0 = .ok (.aload_n 0, 1) := by decide +kernel
theorem dX8_prominenceOf_1 : decode cX8_prominenceOf 1 = .ok (.getfield 45, 3) := by decide +kernel
theorem dX8_prominenceOf_4 : decode cX8_prominenceOf 4 = .ok (.iload_n 1, 1) := by decide +kernel
theorem dX8_prominenceOf_5 : decode cX8_prominenceOf 5 = .ok (.iaload, 1) := by decide +kernel
theorem dX8_prominenceOf_6 : decode cX8_prominenceOf 6 = .ok (.istore_n 2, 1) := by decide +kernel
theorem dX8_prominenceOf_7 : decode cX8_prominenceOf 7 = .ok (.iload_n 2, 1) := by decide +kernel
theorem dX8_prominenceOf_8 : decode cX8_prominenceOf 8 = .ok (.iconst (-1), 1) := by decide +kernel
theorem dX8_prominenceOf_9 : decode cX8_prominenceOf 9 = .ok (.if_icmp .eq 22, 3) := by decide +kernel
theorem dX8_prominenceOf_12 : decode cX8_prominenceOf 12 = .ok (.aload_n 0, 1) := by decide +kernel
theorem dX8_prominenceOf_13 : decode cX8_prominenceOf 13 = .ok (.iload_n 2, 1) := by decide +kernel
theorem dX8_prominenceOf_14 : decode cX8_prominenceOf 14 = .ok (.iload_n 1, 1) := by decide +kernel
theorem dX8_prominenceOf_15 : decode cX8_prominenceOf 15 = .ok (.invokevirtual 181, 3) := by decide +kernel
theorem dX8_prominenceOf_18 : decode cX8_prominenceOf 18 = .ok (.ifCond .ne 13, 3) := by decide +kernel
theorem dX8_prominenceOf_21 : decode cX8_prominenceOf 21 = .ok (.aload_n 0, 1) := by decide +kernel
theorem dX8_prominenceOf_22 : decode cX8_prominenceOf 22 = .ok (.getfield 45, 3) := by decide +kernel
theorem dX8_prominenceOf_25 : decode cX8_prominenceOf 25 = .ok (.iload_n 2, 1) := by decide +kernel
theorem dX8_prominenceOf_26 : decode cX8_prominenceOf 26 = .ok (.iaload, 1) := by decide +kernel
theorem dX8_prominenceOf_27 : decode cX8_prominenceOf 27 = .ok (.istore_n 2, 1) := by decide +kernel
theorem dX8_prominenceOf_28 : decode cX8_prominenceOf 28 = .ok (.goto (-21), 3) := by decide +kernel
theorem dX8_prominenceOf_31 : decode cX8_prominenceOf 31 = .ok (.iload_n 2, 1) := by decide +kernel
theorem dX8_prominenceOf_32 : decode cX8_prominenceOf 32 = .ok (.iconst (-1), 1) := by decide +kernel
theorem dX8_prominenceOf_33 : decode cX8_prominenceOf 33 = .ok (.if_icmp .ne 14, 3) := by decide +kernel
theorem dX8_prominenceOf_36 : decode cX8_prominenceOf 36 = .ok (.aload_n 0, 1) := by decide +kernel
theorem dX8_prominenceOf_37 : decode cX8_prominenceOf 37 = .ok (.getfield 42, 3) := by decide +kernel
theorem dX8_prominenceOf_40 : decode cX8_prominenceOf 40 = .ok (.iload_n 1, 1) := by decide +kernel
theorem dX8_prominenceOf_41 : decode cX8_prominenceOf 41 = .ok (.iaload, 1) := by decide +kernel
theorem dX8_prominenceOf_42 : decode cX8_prominenceOf 42 = .ok (.iconst 1, 1) := by decide +kernel
theorem dX8_prominenceOf_43 : decode cX8_prominenceOf 43 = .ok (.iadd, 1) := by decide +kernel
theorem dX8_prominenceOf_44 : decode cX8_prominenceOf 44 = .ok (.goto 16, 3) := by decide +kernel
theorem dX8_prominenceOf_47 : decode cX8_prominenceOf 47 = .ok (.aload_n 0, 1) := by decide +kernel
theorem dX8_prominenceOf_48 : decode cX8_prominenceOf 48 = .ok (.getfield 42, 3) := by decide +kernel
theorem dX8_prominenceOf_51 : decode cX8_prominenceOf 51 = .ok (.iload_n 1, 1) := by decide +kernel
theorem dX8_prominenceOf_52 : decode cX8_prominenceOf 52 = .ok (.iaload, 1) := by decide +kernel
theorem dX8_prominenceOf_53 : decode cX8_prominenceOf 53 = .ok (.aload_n 0, 1) := by decide +kernel
theorem dX8_prominenceOf_54 : decode cX8_prominenceOf 54 = .ok (.getfield 42, 3) := by decide +kernel
theorem dX8_prominenceOf_57 : decode cX8_prominenceOf 57 = .ok (.iload_n 2, 1) := by decide +kernel
theorem dX8_prominenceOf_58 : decode cX8_prominenceOf 58 = .ok (.iaload, 1) := by decide +kernel
theorem dX8_prominenceOf_59 : decode cX8_prominenceOf 59 = .ok (.isub, 1) := by decide +kernel
theorem dX8_prominenceOf_60 : decode cX8_prominenceOf 60 = .ok (.ireturn, 1) := by decide +kernel
theorem dX8_holdsHigher_0 : decode cX8_holdsHigher 0 = .ok (.iconst 0, 1) := by decide +kernel
theorem dX8_holdsHigher_1 : decode cX8_holdsHigher 1 = .ok (.istore_n 3, 1) := by decide +kernel
theorem dX8_holdsHigher_2 : decode cX8_holdsHigher 2 = .ok (.iconst 0, 1) := by decide +kernel
theorem dX8_holdsHigher_3 : decode cX8_holdsHigher 3 = .ok (.istore 4, 2) := by decide +kernel
theorem dX8_holdsHigher_5 : decode cX8_holdsHigher 5 = .ok (.iload 4, 2) := by decide +kernel
theorem dX8_holdsHigher_7 : decode cX8_holdsHigher 7 = .ok (.aload_n 0, 1) := by decide +kernel
theorem dX8_holdsHigher_8 : decode cX8_holdsHigher 8 = .ok (.getfield 116, 3) := by decide +kernel
theorem dX8_holdsHigher_11 : decode cX8_holdsHigher 11 = .ok (.if_icmp .ge 48, 3) := by decide +kernel
theorem dX8_holdsHigher_14 : decode cX8_holdsHigher 14 = .ok (.iload_n 3, 1) := by decide +kernel
theorem dX8_holdsHigher_15 : decode cX8_holdsHigher 15 = .ok (.ifCond .ne 32, 3) := by decide +kernel
theorem dX8_holdsHigher_18 : decode cX8_holdsHigher 18 = .ok (.aload_n 0, 1) := by decide +kernel
theorem dX8_holdsHigher_19 : decode cX8_holdsHigher 19 = .ok (.iload 4, 2) := by decide +kernel
theorem dX8_holdsHigher_21 : decode cX8_holdsHigher 21 = .ok (.invokevirtual 184, 3) := by decide +kernel
theorem dX8_holdsHigher_24 : decode cX8_holdsHigher 24 = .ok (.ifCond .eq 27, 3) := by decide +kernel
theorem dX8_holdsHigher_27 : decode cX8_holdsHigher 27 = .ok (.aload_n 0, 1) := by decide +kernel
theorem dX8_holdsHigher_28 : decode cX8_holdsHigher 28 = .ok (.iload 4, 2) := by decide +kernel
theorem dX8_holdsHigher_30 : decode cX8_holdsHigher 30 = .ok (.iload_n 1, 1) := by decide +kernel
theorem dX8_holdsHigher_31 : decode cX8_holdsHigher 31 = .ok (.invokevirtual 170, 3) := by decide +kernel
theorem dX8_holdsHigher_34 : decode cX8_holdsHigher 34 = .ok (.ifCond .eq 17, 3) := by decide +kernel
theorem dX8_holdsHigher_37 : decode cX8_holdsHigher 37 = .ok (.aload_n 0, 1) := by decide +kernel
theorem dX8_holdsHigher_38 : decode cX8_holdsHigher 38 = .ok (.iload 4, 2) := by decide +kernel
theorem dX8_holdsHigher_40 : decode cX8_holdsHigher 40 = .ok (.iload_n 2, 1) := by decide +kernel
theorem dX8_holdsHigher_41 : decode cX8_holdsHigher 41 = .ok (.invokevirtual 187, 3) := by decide +kernel
theorem dX8_holdsHigher_44 : decode cX8_holdsHigher 44 = .ok (.ifCond .eq 7, 3) := by decide +kernel
theorem dX8_holdsHigher_47 : decode cX8_holdsHigher 47 = .ok (.iconst 1, 1) := by decide +kernel
theorem dX8_holdsHigher_48 : decode cX8_holdsHigher 48 = .ok (.goto 4, 3) := by decide +kernel
theorem dX8_holdsHigher_51 : decode cX8_holdsHigher 51 = .ok (.iconst 0, 1) := by decide +kernel
theorem dX8_holdsHigher_52 : decode cX8_holdsHigher 52 = .ok (.istore_n 3, 1) := by decide +kernel
theorem dX8_holdsHigher_53 : decode cX8_holdsHigher 53 = .ok (.iinc 4 1, 3) := by decide +kernel
theorem dX8_holdsHigher_56 : decode cX8_holdsHigher 56 = .ok (.goto (-51), 3) := by decide +kernel
theorem dX8_holdsHigher_59 : decode cX8_holdsHigher 59 = .ok (.iload_n 3, 1) := by decide +kernel
theorem dX8_holdsHigher_60 : decode cX8_holdsHigher 60 = .ok (.ireturn, 1) := by decide +kernel
theorem dX8_layLeaves_0 : decode cX8_layLeaves 0 = .ok (.aload_n 0, 1) := by decide +kernel
theorem dX8_layLeaves_1 : decode cX8_layLeaves 1 = .ok (.iconst 0, 1) := by decide +kernel
theorem dX8_layLeaves_2 : decode cX8_layLeaves 2 = .ok (.putfield 190, 3) := by decide +kernel
theorem dX8_layLeaves_5 : decode cX8_layLeaves 5 = .ok (.iconst 0, 1) := by decide +kernel
theorem dX8_layLeaves_6 : decode cX8_layLeaves 6 = .ok (.istore_n 1, 1) := by decide +kernel
theorem dX8_layLeaves_7 : decode cX8_layLeaves 7 = .ok (.iload_n 1, 1) := by decide +kernel
theorem dX8_layLeaves_8 : decode cX8_layLeaves 8 = .ok (.aload_n 0, 1) := by decide +kernel
theorem dX8_layLeaves_9 : decode cX8_layLeaves 9 = .ok (.getfield 116, 3) := by decide +kernel
theorem dX8_layLeaves_12 : decode cX8_layLeaves 12 = .ok (.if_icmp .ge 96, 3) := by decide +kernel
theorem dX8_layLeaves_15 : decode cX8_layLeaves 15 = .ok (.aload_n 0, 1) := by decide +kernel
theorem dX8_layLeaves_16 : decode cX8_layLeaves 16 = .ok (.iload_n 1, 1) := by decide +kernel
theorem dX8_layLeaves_17 : decode cX8_layLeaves 17 = .ok (.invokevirtual 184, 3) := by decide +kernel
theorem dX8_layLeaves_20 : decode cX8_layLeaves 20 = .ok (.ifCond .eq 82, 3) := by decide +kernel
theorem dX8_layLeaves_23 : decode cX8_layLeaves 23 = .ok (.aload_n 0, 1) := by decide +kernel
theorem dX8_layLeaves_24 : decode cX8_layLeaves 24 = .ok (.getfield 54, 3) := by decide +kernel
theorem dX8_layLeaves_27 : decode cX8_layLeaves 27 = .ok (.iload_n 1, 1) := by decide +kernel
theorem dX8_layLeaves_28 : decode cX8_layLeaves 28 = .ok (.aload_n 0, 1) := by decide +kernel
theorem dX8_layLeaves_29 : decode cX8_layLeaves 29 = .ok (.iload_n 1, 1) := by decide +kernel
theorem dX8_layLeaves_30 : decode cX8_layLeaves 30 = .ok (.invokevirtual 193, 3) := by decide +kernel
theorem dX8_layLeaves_33 : decode cX8_layLeaves 33 = .ok (.iastore, 1) := by decide +kernel
theorem dX8_layLeaves_34 : decode cX8_layLeaves 34 = .ok (.aload_n 0, 1) := by decide +kernel
theorem dX8_layLeaves_35 : decode cX8_layLeaves 35 = .ok (.getfield 190, 3) := by decide +kernel
theorem dX8_layLeaves_38 : decode cX8_layLeaves 38 = .ok (.istore_n 2, 1) := by decide +kernel
theorem dX8_layLeaves_39 : decode cX8_layLeaves 39 = .ok (.iload_n 2, 1) := by decide +kernel
theorem dX8_layLeaves_40 : decode cX8_layLeaves 40 = .ok (.ifCond .le 45, 3) := by decide +kernel
theorem dX8_layLeaves_43 : decode cX8_layLeaves 43 = .ok (.aload_n 0, 1) := by decide +kernel
theorem dX8_layLeaves_44 : decode cX8_layLeaves 44 = .ok (.getfield 54, 3) := by decide +kernel
theorem dX8_layLeaves_47 : decode cX8_layLeaves 47 = .ok (.aload_n 0, 1) := by decide +kernel
theorem dX8_layLeaves_48 : decode cX8_layLeaves 48 = .ok (.getfield 57, 3) := by decide +kernel
theorem dX8_layLeaves_51 : decode cX8_layLeaves 51 = .ok (.iload_n 2, 1) := by decide +kernel
theorem dX8_layLeaves_52 : decode cX8_layLeaves 52 = .ok (.iconst 1, 1) := by decide +kernel
theorem dX8_layLeaves_53 : decode cX8_layLeaves 53 = .ok (.isub, 1) := by decide +kernel
theorem dX8_layLeaves_54 : decode cX8_layLeaves 54 = .ok (.iaload, 1) := by decide +kernel
theorem dX8_layLeaves_55 : decode cX8_layLeaves 55 = .ok (.iaload, 1) := by decide +kernel
theorem dX8_layLeaves_56 : decode cX8_layLeaves 56 = .ok (.aload_n 0, 1) := by decide +kernel
theorem dX8_layLeaves_57 : decode cX8_layLeaves 57 = .ok (.getfield 54, 3) := by decide +kernel
theorem dX8_layLeaves_60 : decode cX8_layLeaves 60 = .ok (.iload_n 1, 1) := by decide +kernel
theorem dX8_layLeaves_61 : decode cX8_layLeaves 61 = .ok (.iaload, 1) := by decide +kernel
theorem dX8_layLeaves_62 : decode cX8_layLeaves 62 = .ok (.if_icmp .ge 23, 3) := by decide +kernel
theorem dX8_layLeaves_65 : decode cX8_layLeaves 65 = .ok (.aload_n 0, 1) := by decide +kernel
theorem dX8_layLeaves_66 : decode cX8_layLeaves 66 = .ok (.getfield 57, 3) := by decide +kernel
theorem dX8_layLeaves_69 : decode cX8_layLeaves 69 = .ok (.iload_n 2, 1) := by decide +kernel
theorem dX8_layLeaves_70 : decode cX8_layLeaves 70 = .ok (.aload_n 0, 1) := by decide +kernel
theorem dX8_layLeaves_71 : decode cX8_layLeaves 71 = .ok (.getfield 57, 3) := by decide +kernel
theorem dX8_layLeaves_74 : decode cX8_layLeaves 74 = .ok (.iload_n 2, 1) := by decide +kernel
theorem dX8_layLeaves_75 : decode cX8_layLeaves 75 = .ok (.iconst 1, 1) := by decide +kernel
theorem dX8_layLeaves_76 : decode cX8_layLeaves 76 = .ok (.isub, 1) := by decide +kernel
theorem dX8_layLeaves_77 : decode cX8_layLeaves 77 = .ok (.iaload, 1) := by decide +kernel
theorem dX8_layLeaves_78 : decode cX8_layLeaves 78 = .ok (.iastore, 1) := by decide +kernel
theorem dX8_layLeaves_79 : decode cX8_layLeaves 79 = .ok (.iinc 2 (-1), 3) := by decide +kernel
theorem dX8_layLeaves_82 : decode cX8_layLeaves 82 = .ok (.goto (-43), 3) := by decide +kernel
theorem dX8_layLeaves_85 : decode cX8_layLeaves 85 = .ok (.aload_n 0, 1) := by decide +kernel
theorem dX8_layLeaves_86 : decode cX8_layLeaves 86 = .ok (.getfield 57, 3) := by decide +kernel
theorem dX8_layLeaves_89 : decode cX8_layLeaves 89 = .ok (.iload_n 2, 1) := by decide +kernel
theorem dX8_layLeaves_90 : decode cX8_layLeaves 90 = .ok (.iload_n 1, 1) := by decide +kernel
theorem dX8_layLeaves_91 : decode cX8_layLeaves 91 = .ok (.iastore, 1) := by decide +kernel
theorem dX8_layLeaves_92 : decode cX8_layLeaves 92 = .ok (.aload_n 0, 1) := by decide +kernel
theorem dX8_layLeaves_93 : decode cX8_layLeaves 93 = .ok (.dup, 1) := by decide +kernel
theorem dX8_layLeaves_94 : decode cX8_layLeaves 94 = .ok (.getfield 190, 3) := by decide +kernel
theorem dX8_layLeaves_97 : decode cX8_layLeaves 97 = .ok (.iconst 1, 1) := by decide +kernel
theorem dX8_layLeaves_98 : decode cX8_layLeaves 98 = .ok (.iadd, 1) := by decide +kernel
theorem dX8_layLeaves_99 : decode cX8_layLeaves 99 = .ok (.putfield 190, 3) := by decide +kernel
theorem dX8_layLeaves_102 : decode cX8_layLeaves 102 = .ok (.iinc 1 1, 3) := by decide +kernel
theorem dX8_layLeaves_105 : decode cX8_layLeaves 105 = .ok (.goto (-98), 3) := by decide +kernel
theorem dX8_layLeaves_108 : decode cX8_layLeaves 108 = .ok (.return_, 1) := by decide +kernel
theorem dX8_depthOf_0 : decode cX8_depthOf 0 = .ok (.iconst 0, 1) := by decide +kernel
theorem dX8_depthOf_1 : decode cX8_depthOf 1 = .ok (.istore_n 2, 1) := by decide +kernel
theorem dX8_depthOf_2 : decode cX8_depthOf 2 = .ok (.iload_n 1, 1) := by decide +kernel
theorem dX8_depthOf_3 : decode cX8_depthOf 3 = .ok (.istore_n 3, 1) := by decide +kernel
theorem dX8_depthOf_4 : decode cX8_depthOf 4 = .ok (.iload_n 3, 1) := by decide +kernel
theorem dX8_depthOf_5 : decode cX8_depthOf 5 = .ok (.iconst (-1), 1) := by decide +kernel
theorem dX8_depthOf_6 : decode cX8_depthOf 6 = .ok (.if_icmp .eq 16, 3) := by decide +kernel
theorem dX8_depthOf_9 : decode cX8_depthOf 9 = .ok (.iinc 2 1, 3) := by decide +kernel
theorem dX8_depthOf_12 : decode cX8_depthOf 12 = .ok (.aload_n 0, 1) := by decide +kernel
theorem dX8_depthOf_13 : decode cX8_depthOf 13 = .ok (.getfield 45, 3) := by decide +kernel
theorem dX8_depthOf_16 : decode cX8_depthOf 16 = .ok (.iload_n 3, 1) := by decide +kernel
theorem dX8_depthOf_17 : decode cX8_depthOf 17 = .ok (.iaload, 1) := by decide +kernel
theorem dX8_depthOf_18 : decode cX8_depthOf 18 = .ok (.istore_n 3, 1) := by decide +kernel
theorem dX8_depthOf_19 : decode cX8_depthOf 19 = .ok (.goto (-15), 3) := by decide +kernel
theorem dX8_depthOf_22 : decode cX8_depthOf 22 = .ok (.iload_n 2, 1) := by decide +kernel
theorem dX8_depthOf_23 : decode cX8_depthOf 23 = .ok (.ireturn, 1) := by decide +kernel
theorem dX8_deepest_0 : decode cX8_deepest 0 = .ok (.iconst 0, 1) := by decide +kernel
theorem dX8_deepest_1 : decode cX8_deepest 1 = .ok (.istore_n 1, 1) := by decide +kernel
theorem dX8_deepest_2 : decode cX8_deepest 2 = .ok (.iconst 0, 1) := by decide +kernel
theorem dX8_deepest_3 : decode cX8_deepest 3 = .ok (.istore_n 2, 1) := by decide +kernel
theorem dX8_deepest_4 : decode cX8_deepest 4 = .ok (.iload_n 2, 1) := by decide +kernel
theorem dX8_deepest_5 : decode cX8_deepest 5 = .ok (.aload_n 0, 1) := by decide +kernel
theorem dX8_deepest_6 : decode cX8_deepest 6 = .ok (.getfield 116, 3) := by decide +kernel
theorem dX8_deepest_9 : decode cX8_deepest 9 = .ok (.if_icmp .ge 19, 3) := by decide +kernel
theorem dX8_deepest_12 : decode cX8_deepest 12 = .ok (.iload_n 1, 1) := by decide +kernel
theorem dX8_deepest_13 : decode cX8_deepest 13 = .ok (.aload_n 0, 1) := by decide +kernel
theorem dX8_deepest_14 : decode cX8_deepest 14 = .ok (.iload_n 2, 1) := by decide +kernel
theorem dX8_deepest_15 : decode cX8_deepest 15 = .ok (.invokevirtual 196, 3) := by decide +kernel
theorem dX8_deepest_18 : decode cX8_deepest 18 = .ok (.invokestatic 199, 3) := by decide +kernel
theorem dX8_deepest_21 : decode cX8_deepest 21 = .ok (.istore_n 1, 1) := by decide +kernel
theorem dX8_deepest_22 : decode cX8_deepest 22 = .ok (.iinc 2 1, 3) := by decide +kernel
theorem dX8_deepest_25 : decode cX8_deepest 25 = .ok (.goto (-21), 3) := by decide +kernel
theorem dX8_deepest_28 : decode cX8_deepest 28 = .ok (.iload_n 1, 1) := by decide +kernel
theorem dX8_deepest_29 : decode cX8_deepest 29 = .ok (.ireturn, 1) := by decide +kernel
theorem dX8_differentLevels_0 : decode cX8_differentLevels 0 = .ok (.iconst 0, 1) := by decide +kernel
theorem dX8_differentLevels_1 : decode cX8_differentLevels 1 = .ok (.istore_n 1, 1) := by decide +kernel
theorem dX8_differentLevels_2 : decode cX8_differentLevels 2 = .ok (.iconst 0, 1) := by decide +kernel
theorem dX8_differentLevels_3 : decode cX8_differentLevels 3 = .ok (.istore_n 2, 1) := by decide +kernel
theorem dX8_differentLevels_4 : decode cX8_differentLevels 4 = .ok (.iload_n 2, 1) := by decide +kernel
theorem dX8_differentLevels_5 : decode cX8_differentLevels 5 = .ok (.aload_n 0, 1) := by decide +kernel
theorem dX8_differentLevels_6 : decode cX8_differentLevels 6 = .ok (.invokevirtual 76, 3) := by decide +kernel
theorem dX8_differentLevels_9 : decode cX8_differentLevels 9 = .ok (.if_icmp .ge 20, 3) := by decide +kernel
theorem dX8_differentLevels_12 : decode cX8_differentLevels 12 = .ok (.iload_n 1, 1) := by decide +kernel
theorem dX8_differentLevels_13 : decode cX8_differentLevels 13 = .ok (.iconst 1, 1) := by decide +kernel
theorem dX8_differentLevels_14 : decode cX8_differentLevels 14 = .ok (.aload_n 0, 1) := by decide +kernel
theorem dX8_differentLevels_15 : decode cX8_differentLevels 15 = .ok (.getfield 16, 3) := by decide +kernel
theorem dX8_differentLevels_18 : decode cX8_differentLevels 18 = .ok (.iload_n 2, 1) := by decide +kernel
theorem dX8_differentLevels_19 : decode cX8_differentLevels 19 = .ok (.iaload, 1) := by decide +kernel
theorem dX8_differentLevels_20 : decode cX8_differentLevels 20 = .ok (.ishl, 1) := by decide +kernel
theorem dX8_differentLevels_21 : decode cX8_differentLevels 21 = .ok (.ior, 1) := by decide +kernel
theorem dX8_differentLevels_22 : decode cX8_differentLevels 22 = .ok (.istore_n 1, 1) := by decide +kernel
theorem dX8_differentLevels_23 : decode cX8_differentLevels 23 = .ok (.iinc 2 1, 3) := by decide +kernel
theorem dX8_differentLevels_26 : decode cX8_differentLevels 26 = .ok (.goto (-22), 3) := by decide +kernel
theorem dX8_differentLevels_29 : decode cX8_differentLevels 29 = .ok (.iload_n 1, 1) := by decide +kernel
theorem dX8_differentLevels_30 : decode cX8_differentLevels 30 = .ok (.i2l, 1) := by decide +kernel
theorem dX8_differentLevels_31 : decode cX8_differentLevels 31 = .ok (.invokestatic 202, 3) := by decide +kernel
theorem dX8_differentLevels_34 : decode cX8_differentLevels 34 = .ok (.ireturn, 1) := by decide +kernel
theorem dX8_sumOfLevels_0 : decode cX8_sumOfLevels 0 = .ok (.iconst 0, 1) := by decide +kernel
theorem dX8_sumOfLevels_1 : decode cX8_sumOfLevels 1 = .ok (.istore_n 1, 1) := by decide +kernel
theorem dX8_sumOfLevels_2 : decode cX8_sumOfLevels 2 = .ok (.iconst 0, 1) := by decide +kernel
theorem dX8_sumOfLevels_3 : decode cX8_sumOfLevels 3 = .ok (.istore_n 2, 1) := by decide +kernel
theorem dX8_sumOfLevels_4 : decode cX8_sumOfLevels 4 = .ok (.iload_n 2, 1) := by decide +kernel
theorem dX8_sumOfLevels_5 : decode cX8_sumOfLevels 5 = .ok (.aload_n 0, 1) := by decide +kernel
theorem dX8_sumOfLevels_6 : decode cX8_sumOfLevels 6 = .ok (.invokevirtual 76, 3) := by decide +kernel
theorem dX8_sumOfLevels_9 : decode cX8_sumOfLevels 9 = .ok (.if_icmp .ge 18, 3) := by decide +kernel
theorem dX8_sumOfLevels_12 : decode cX8_sumOfLevels 12 = .ok (.iload_n 1, 1) := by decide +kernel
theorem dX8_sumOfLevels_13 : decode cX8_sumOfLevels 13 = .ok (.aload_n 0, 1) := by decide +kernel
theorem dX8_sumOfLevels_14 : decode cX8_sumOfLevels 14 = .ok (.getfield 16, 3) := by decide +kernel
theorem dX8_sumOfLevels_17 : decode cX8_sumOfLevels 17 = .ok (.iload_n 2, 1) := by decide +kernel
theorem dX8_sumOfLevels_18 : decode cX8_sumOfLevels 18 = .ok (.iaload, 1) := by decide +kernel
theorem dX8_sumOfLevels_19 : decode cX8_sumOfLevels 19 = .ok (.iadd, 1) := by decide +kernel
theorem dX8_sumOfLevels_20 : decode cX8_sumOfLevels 20 = .ok (.istore_n 1, 1) := by decide +kernel
theorem dX8_sumOfLevels_21 : decode cX8_sumOfLevels 21 = .ok (.iinc 2 1, 3) := by decide +kernel
theorem dX8_sumOfLevels_24 : decode cX8_sumOfLevels 24 = .ok (.goto (-20), 3) := by decide +kernel
theorem dX8_sumOfLevels_27 : decode cX8_sumOfLevels 27 = .ok (.iload_n 1, 1) := by decide +kernel
theorem dX8_sumOfLevels_28 : decode cX8_sumOfLevels 28 = .ok (.ireturn, 1) := by decide +kernel
theorem dX8_countOf_0 : decode cX8_countOf 0 = .ok (.aload_n 0, 1) := by decide +kernel
theorem dX8_countOf_1 : decode cX8_countOf 1 = .ok (.invokevirtual 113, 3) := by decide +kernel
theorem dX8_countOf_4 : decode cX8_countOf 4 = .ok (.iload_n 1, 1) := by decide +kernel
theorem dX8_countOf_5 : decode cX8_countOf 5 = .ok (.tableswitch 78 0 6 #[43, 48, 53, 58, 63, 68, 73], 43) := by decide +kernel
theorem dX8_countOf_48 : decode cX8_countOf 48 = .ok (.aload_n 0, 1) := by decide +kernel
theorem dX8_countOf_49 : decode cX8_countOf 49 = .ok (.getfield 7, 3) := by decide +kernel
theorem dX8_countOf_52 : decode cX8_countOf 52 = .ok (.ireturn, 1) := by decide +kernel
theorem dX8_countOf_53 : decode cX8_countOf 53 = .ok (.aload_n 0, 1) := by decide +kernel
theorem dX8_countOf_54 : decode cX8_countOf 54 = .ok (.getfield 13, 3) := by decide +kernel
theorem dX8_countOf_57 : decode cX8_countOf 57 = .ok (.ireturn, 1) := by decide +kernel
theorem dX8_countOf_58 : decode cX8_countOf 58 = .ok (.aload_n 0, 1) := by decide +kernel
theorem dX8_countOf_59 : decode cX8_countOf 59 = .ok (.getfield 116, 3) := by decide +kernel
theorem dX8_countOf_62 : decode cX8_countOf 62 = .ok (.ireturn, 1) := by decide +kernel
theorem dX8_countOf_63 : decode cX8_countOf 63 = .ok (.aload_n 0, 1) := by decide +kernel
theorem dX8_countOf_64 : decode cX8_countOf 64 = .ok (.getfield 190, 3) := by decide +kernel
theorem dX8_countOf_67 : decode cX8_countOf 67 = .ok (.ireturn, 1) := by decide +kernel
theorem dX8_countOf_68 : decode cX8_countOf 68 = .ok (.aload_n 0, 1) := by decide +kernel
theorem dX8_countOf_69 : decode cX8_countOf 69 = .ok (.invokevirtual 206, 3) := by decide +kernel
theorem dX8_countOf_72 : decode cX8_countOf 72 = .ok (.ireturn, 1) := by decide +kernel
theorem dX8_countOf_73 : decode cX8_countOf 73 = .ok (.aload_n 0, 1) := by decide +kernel
theorem dX8_countOf_74 : decode cX8_countOf 74 = .ok (.invokevirtual 209, 3) := by decide +kernel
theorem dX8_countOf_77 : decode cX8_countOf 77 = .ok (.ireturn, 1) := by decide +kernel
theorem dX8_countOf_78 : decode cX8_countOf 78 = .ok (.aload_n 0, 1) := by decide +kernel
theorem dX8_countOf_79 : decode cX8_countOf 79 = .ok (.invokevirtual 212, 3) := by decide +kernel
theorem dX8_countOf_82 : decode cX8_countOf 82 = .ok (.ireturn, 1) := by decide +kernel
theorem dX8_countOf_83 : decode cX8_countOf 83 = .ok (.aload_n 0, 1) := by decide +kernel
theorem dX8_countOf_84 : decode cX8_countOf 84 = .ok (.getfield 90, 3) := by decide +kernel
theorem dX8_countOf_87 : decode cX8_countOf 87 = .ok (.ireturn, 1) := by decide +kernel
theorem dX8_count_0 : decode cX8_count 0 = .ok (.aload_n 0, 1) := by decide +kernel
theorem dX8_count_1 : decode cX8_count 1 = .ok (.iload_n 1, 1) := by decide +kernel
theorem dX8_count_2 : decode cX8_count 2 = .ok (.iconst 0, 1) := by decide +kernel
theorem dX8_count_3 : decode cX8_count 3 = .ok (.bipush 7, 2) := by decide +kernel
theorem dX8_count_5 : decode cX8_count 5 = .ok (.invokestatic 80, 3) := by decide +kernel
theorem dX8_count_8 : decode cX8_count 8 = .ok (.ifCond .eq 7, 3) := by decide +kernel
theorem dX8_count_11 : decode cX8_count 11 = .ok (.iconst 0, 1) := by decide +kernel
theorem dX8_count_12 : decode cX8_count 12 = .ok (.goto 4, 3) := by decide +kernel
theorem dX8_count_15 : decode cX8_count 15 = .ok (.iconst 1, 1) := by decide +kernel
theorem dX8_count_16 : decode cX8_count 16 = .ok (.putfield 73, 3) := by decide +kernel
theorem dX8_count_19 : decode cX8_count 19 = .ok (.aload_n 0, 1) := by decide +kernel
theorem dX8_count_20 : decode cX8_count 20 = .ok (.getfield 73, 3) := by decide +kernel
theorem dX8_count_23 : decode cX8_count 23 = .ok (.ifCond .le 7, 3) := by decide +kernel
theorem dX8_count_26 : decode cX8_count 26 = .ok (.iconst 0, 1) := by decide +kernel
theorem dX8_count_27 : decode cX8_count 27 = .ok (.goto 8, 3) := by decide +kernel
theorem dX8_count_30 : decode cX8_count 30 = .ok (.aload_n 0, 1) := by decide +kernel
theorem dX8_count_31 : decode cX8_count 31 = .ok (.iload_n 1, 1) := by decide +kernel
theorem dX8_count_32 : decode cX8_count 32 = .ok (.invokevirtual 215, 3) := by decide +kernel
theorem dX8_count_35 : decode cX8_count 35 = .ok (.ireturn, 1) := by decide +kernel
theorem dX8_nodeOf_0 : decode cX8_nodeOf 0 = .ok (.aload_n 0, 1) := by decide +kernel
theorem dX8_nodeOf_1 : decode cX8_nodeOf 1 = .ok (.aload_n 0, 1) := by decide +kernel
theorem dX8_nodeOf_2 : decode cX8_nodeOf 2 = .ok (.iload_n 1, 1) := by decide +kernel
theorem dX8_nodeOf_3 : decode cX8_nodeOf 3 = .ok (.invokevirtual 106, 3) := by decide +kernel
theorem dX8_nodeOf_6 : decode cX8_nodeOf 6 = .ok (.ifCond .eq 7, 3) := by decide +kernel
theorem dX8_nodeOf_9 : decode cX8_nodeOf 9 = .ok (.iconst 0, 1) := by decide +kernel
theorem dX8_nodeOf_10 : decode cX8_nodeOf 10 = .ok (.goto 4, 3) := by decide +kernel
theorem dX8_nodeOf_13 : decode cX8_nodeOf 13 = .ok (.iconst 1, 1) := by decide +kernel
theorem dX8_nodeOf_14 : decode cX8_nodeOf 14 = .ok (.putfield 73, 3) := by decide +kernel
theorem dX8_nodeOf_17 : decode cX8_nodeOf 17 = .ok (.aload_n 0, 1) := by decide +kernel
theorem dX8_nodeOf_18 : decode cX8_nodeOf 18 = .ok (.invokevirtual 113, 3) := by decide +kernel
theorem dX8_nodeOf_21 : decode cX8_nodeOf 21 = .ok (.aload_n 0, 1) := by decide +kernel
theorem dX8_nodeOf_22 : decode cX8_nodeOf 22 = .ok (.getfield 73, 3) := by decide +kernel
theorem dX8_nodeOf_25 : decode cX8_nodeOf 25 = .ok (.ifCond .le 7, 3) := by decide +kernel
theorem dX8_nodeOf_28 : decode cX8_nodeOf 28 = .ok (.iconst 0, 1) := by decide +kernel
theorem dX8_nodeOf_29 : decode cX8_nodeOf 29 = .ok (.goto 9, 3) := by decide +kernel
theorem dX8_nodeOf_32 : decode cX8_nodeOf 32 = .ok (.aload_n 0, 1) := by decide +kernel
theorem dX8_nodeOf_33 : decode cX8_nodeOf 33 = .ok (.getfield 51, 3) := by decide +kernel
theorem dX8_nodeOf_36 : decode cX8_nodeOf 36 = .ok (.iload_n 1, 1) := by decide +kernel
theorem dX8_nodeOf_37 : decode cX8_nodeOf 37 = .ok (.iaload, 1) := by decide +kernel
theorem dX8_nodeOf_38 : decode cX8_nodeOf 38 = .ok (.ireturn, 1) := by decide +kernel
theorem dX8_isNode_0 : decode cX8_isNode 0 = .ok (.aload_n 0, 1) := by decide +kernel
theorem dX8_isNode_1 : decode cX8_isNode 1 = .ok (.invokevirtual 113, 3) := by decide +kernel
theorem dX8_isNode_4 : decode cX8_isNode 4 = .ok (.iload_n 1, 1) := by decide +kernel
theorem dX8_isNode_5 : decode cX8_isNode 5 = .ok (.iconst 0, 1) := by decide +kernel
theorem dX8_isNode_6 : decode cX8_isNode 6 = .ok (.aload_n 0, 1) := by decide +kernel
theorem dX8_isNode_7 : decode cX8_isNode 7 = .ok (.getfield 116, 3) := by decide +kernel
theorem dX8_isNode_10 : decode cX8_isNode 10 = .ok (.iconst 1, 1) := by decide +kernel
theorem dX8_isNode_11 : decode cX8_isNode 11 = .ok (.isub, 1) := by decide +kernel
theorem dX8_isNode_12 : decode cX8_isNode 12 = .ok (.invokestatic 80, 3) := by decide +kernel
theorem dX8_isNode_15 : decode cX8_isNode 15 = .ok (.ireturn, 1) := by decide +kernel
theorem dX8_own_0 : decode cX8_own 0 = .ok (.iconst 0, 1) := by decide +kernel
theorem dX8_own_1 : decode cX8_own 1 = .ok (.istore_n 2, 1) := by decide +kernel
theorem dX8_own_2 : decode cX8_own 2 = .ok (.iconst 0, 1) := by decide +kernel
theorem dX8_own_3 : decode cX8_own 3 = .ok (.istore_n 3, 1) := by decide +kernel
theorem dX8_own_4 : decode cX8_own 4 = .ok (.iload_n 3, 1) := by decide +kernel
theorem dX8_own_5 : decode cX8_own 5 = .ok (.aload_n 0, 1) := by decide +kernel
theorem dX8_own_6 : decode cX8_own 6 = .ok (.invokevirtual 76, 3) := by decide +kernel
theorem dX8_own_9 : decode cX8_own 9 = .ok (.if_icmp .ge 27, 3) := by decide +kernel
theorem dX8_own_12 : decode cX8_own 12 = .ok (.iload_n 2, 1) := by decide +kernel
theorem dX8_own_13 : decode cX8_own 13 = .ok (.aload_n 0, 1) := by decide +kernel
theorem dX8_own_14 : decode cX8_own 14 = .ok (.getfield 51, 3) := by decide +kernel
theorem dX8_own_17 : decode cX8_own 17 = .ok (.iload_n 3, 1) := by decide +kernel
theorem dX8_own_18 : decode cX8_own 18 = .ok (.iaload, 1) := by decide +kernel
theorem dX8_own_19 : decode cX8_own 19 = .ok (.iload_n 1, 1) := by decide +kernel
theorem dX8_own_20 : decode cX8_own 20 = .ok (.if_icmp .ne 7, 3) := by decide +kernel
theorem dX8_own_23 : decode cX8_own 23 = .ok (.iconst 1, 1) := by decide +kernel
theorem dX8_own_24 : decode cX8_own 24 = .ok (.goto 4, 3) := by decide +kernel
theorem dX8_own_27 : decode cX8_own 27 = .ok (.iconst 0, 1) := by decide +kernel
theorem dX8_own_28 : decode cX8_own 28 = .ok (.iadd, 1) := by decide +kernel
theorem dX8_own_29 : decode cX8_own 29 = .ok (.istore_n 2, 1) := by decide +kernel
theorem dX8_own_30 : decode cX8_own 30 = .ok (.iinc 3 1, 3) := by decide +kernel
theorem dX8_own_33 : decode cX8_own 33 = .ok (.goto (-29), 3) := by decide +kernel
theorem dX8_own_36 : decode cX8_own 36 = .ok (.iload_n 2, 1) := by decide +kernel
theorem dX8_own_37 : decode cX8_own 37 = .ok (.ireturn, 1) := by decide +kernel
theorem dX8_heightOf_0 : decode cX8_heightOf 0 = .ok (.iconst 0, 1) := by decide +kernel
theorem dX8_heightOf_1 : decode cX8_heightOf 1 = .ok (.istore_n 2, 1) := by decide +kernel
theorem dX8_heightOf_2 : decode cX8_heightOf 2 = .ok (.iconst 0, 1) := by decide +kernel
theorem dX8_heightOf_3 : decode cX8_heightOf 3 = .ok (.istore_n 3, 1) := by decide +kernel
theorem dX8_heightOf_4 : decode cX8_heightOf 4 = .ok (.iload_n 3, 1) := by decide +kernel
theorem dX8_heightOf_5 : decode cX8_heightOf 5 = .ok (.aload_n 0, 1) := by decide +kernel
theorem dX8_heightOf_6 : decode cX8_heightOf 6 = .ok (.invokevirtual 76, 3) := by decide +kernel
theorem dX8_heightOf_9 : decode cX8_heightOf 9 = .ok (.if_icmp .ge 48, 3) := by decide +kernel
theorem dX8_heightOf_12 : decode cX8_heightOf 12 = .ok (.aload_n 0, 1) := by decide +kernel
theorem dX8_heightOf_13 : decode cX8_heightOf 13 = .ok (.getfield 38, 3) := by decide +kernel
theorem dX8_heightOf_16 : decode cX8_heightOf 16 = .ok (.iload_n 1, 1) := by decide +kernel
theorem dX8_heightOf_17 : decode cX8_heightOf 17 = .ok (.laload, 1) := by decide +kernel
theorem dX8_heightOf_18 : decode cX8_heightOf 18 = .ok (.iload_n 3, 1) := by decide +kernel
theorem dX8_heightOf_19 : decode cX8_heightOf 19 = .ok (.invokestatic 151, 3) := by decide +kernel
theorem dX8_heightOf_22 : decode cX8_heightOf 22 = .ok (.ifCond .eq 27, 3) := by decide +kernel
theorem dX8_heightOf_25 : decode cX8_heightOf 25 = .ok (.iload_n 2, 1) := by decide +kernel
theorem dX8_heightOf_26 : decode cX8_heightOf 26 = .ok (.aload_n 0, 1) := by decide +kernel
theorem dX8_heightOf_27 : decode cX8_heightOf 27 = .ok (.aload_n 0, 1) := by decide +kernel
theorem dX8_heightOf_28 : decode cX8_heightOf 28 = .ok (.getfield 16, 3) := by decide +kernel
theorem dX8_heightOf_31 : decode cX8_heightOf 31 = .ok (.iload_n 3, 1) := by decide +kernel
theorem dX8_heightOf_32 : decode cX8_heightOf 32 = .ok (.iaload, 1) := by decide +kernel
theorem dX8_heightOf_33 : decode cX8_heightOf 33 = .ok (.invokevirtual 159, 3) := by decide +kernel
theorem dX8_heightOf_36 : decode cX8_heightOf 36 = .ok (.aload_n 0, 1) := by decide +kernel
theorem dX8_heightOf_37 : decode cX8_heightOf 37 = .ok (.getfield 42, 3) := by decide +kernel
theorem dX8_heightOf_40 : decode cX8_heightOf 40 = .ok (.iload_n 1, 1) := by decide +kernel
theorem dX8_heightOf_41 : decode cX8_heightOf 41 = .ok (.iaload, 1) := by decide +kernel
theorem dX8_heightOf_42 : decode cX8_heightOf 42 = .ok (.isub, 1) := by decide +kernel
theorem dX8_heightOf_43 : decode cX8_heightOf 43 = .ok (.invokestatic 199, 3) := by decide +kernel
theorem dX8_heightOf_46 : decode cX8_heightOf 46 = .ok (.goto 4, 3) := by decide +kernel
theorem dX8_heightOf_49 : decode cX8_heightOf 49 = .ok (.iload_n 2, 1) := by decide +kernel
theorem dX8_heightOf_50 : decode cX8_heightOf 50 = .ok (.istore_n 2, 1) := by decide +kernel
theorem dX8_heightOf_51 : decode cX8_heightOf 51 = .ok (.iinc 3 1, 3) := by decide +kernel
theorem dX8_heightOf_54 : decode cX8_heightOf 54 = .ok (.goto (-50), 3) := by decide +kernel
theorem dX8_heightOf_57 : decode cX8_heightOf 57 = .ok (.iload_n 2, 1) := by decide +kernel
theorem dX8_heightOf_58 : decode cX8_heightOf 58 = .ok (.ireturn, 1) := by decide +kernel
theorem dX8_sumOfRanks_0 : decode cX8_sumOfRanks 0 = .ok (.iconst 0, 1) := by decide +kernel
theorem dX8_sumOfRanks_1 : decode cX8_sumOfRanks 1 = .ok (.istore_n 2, 1) := by decide +kernel
theorem dX8_sumOfRanks_2 : decode cX8_sumOfRanks 2 = .ok (.iconst 0, 1) := by decide +kernel
theorem dX8_sumOfRanks_3 : decode cX8_sumOfRanks 3 = .ok (.istore_n 3, 1) := by decide +kernel
theorem dX8_sumOfRanks_4 : decode cX8_sumOfRanks 4 = .ok (.iload_n 3, 1) := by decide +kernel
theorem dX8_sumOfRanks_5 : decode cX8_sumOfRanks 5 = .ok (.aload_n 0, 1) := by decide +kernel
theorem dX8_sumOfRanks_6 : decode cX8_sumOfRanks 6 = .ok (.invokevirtual 76, 3) := by decide +kernel
theorem dX8_sumOfRanks_9 : decode cX8_sumOfRanks 9 = .ok (.if_icmp .ge 39, 3) := by decide +kernel
theorem dX8_sumOfRanks_12 : decode cX8_sumOfRanks 12 = .ok (.iload_n 2, 1) := by decide +kernel
theorem dX8_sumOfRanks_13 : decode cX8_sumOfRanks 13 = .ok (.aload_n 0, 1) := by decide +kernel
theorem dX8_sumOfRanks_14 : decode cX8_sumOfRanks 14 = .ok (.getfield 38, 3) := by decide +kernel
theorem dX8_sumOfRanks_17 : decode cX8_sumOfRanks 17 = .ok (.iload_n 1, 1) := by decide +kernel
theorem dX8_sumOfRanks_18 : decode cX8_sumOfRanks 18 = .ok (.laload, 1) := by decide +kernel
theorem dX8_sumOfRanks_19 : decode cX8_sumOfRanks 19 = .ok (.iload_n 3, 1) := by decide +kernel
theorem dX8_sumOfRanks_20 : decode cX8_sumOfRanks 20 = .ok (.invokestatic 151, 3) := by decide +kernel
theorem dX8_sumOfRanks_23 : decode cX8_sumOfRanks 23 = .ok (.ifCond .eq 16, 3) := by decide +kernel
theorem dX8_sumOfRanks_26 : decode cX8_sumOfRanks 26 = .ok (.aload_n 0, 1) := by decide +kernel
theorem dX8_sumOfRanks_27 : decode cX8_sumOfRanks 27 = .ok (.aload_n 0, 1) := by decide +kernel
theorem dX8_sumOfRanks_28 : decode cX8_sumOfRanks 28 = .ok (.getfield 16, 3) := by decide +kernel
theorem dX8_sumOfRanks_31 : decode cX8_sumOfRanks 31 = .ok (.iload_n 3, 1) := by decide +kernel
theorem dX8_sumOfRanks_32 : decode cX8_sumOfRanks 32 = .ok (.iaload, 1) := by decide +kernel
theorem dX8_sumOfRanks_33 : decode cX8_sumOfRanks 33 = .ok (.invokevirtual 159, 3) := by decide +kernel
theorem dX8_sumOfRanks_36 : decode cX8_sumOfRanks 36 = .ok (.goto 4, 3) := by decide +kernel
theorem dX8_sumOfRanks_39 : decode cX8_sumOfRanks 39 = .ok (.iconst 0, 1) := by decide +kernel
theorem dX8_sumOfRanks_40 : decode cX8_sumOfRanks 40 = .ok (.iadd, 1) := by decide +kernel
theorem dX8_sumOfRanks_41 : decode cX8_sumOfRanks 41 = .ok (.istore_n 2, 1) := by decide +kernel
theorem dX8_sumOfRanks_42 : decode cX8_sumOfRanks 42 = .ok (.iinc 3 1, 3) := by decide +kernel
theorem dX8_sumOfRanks_45 : decode cX8_sumOfRanks 45 = .ok (.goto (-41), 3) := by decide +kernel
theorem dX8_sumOfRanks_48 : decode cX8_sumOfRanks 48 = .ok (.iload_n 2, 1) := by decide +kernel
theorem dX8_sumOfRanks_49 : decode cX8_sumOfRanks 49 = .ok (.ireturn, 1) := by decide +kernel
theorem dX8_extent_0 : decode cX8_extent 0 = .ok (.bipush 8, 2) := by decide +kernel
theorem dX8_extent_2 : decode cX8_extent 2 = .ok (.istore_n 3, 1) := by decide +kernel
theorem dX8_extent_3 : decode cX8_extent 3 = .ok (.iconst 0, 1) := by decide +kernel
theorem dX8_extent_4 : decode cX8_extent 4 = .ok (.istore 4, 2) := by decide +kernel
theorem dX8_extent_6 : decode cX8_extent 6 = .ok (.iconst 0, 1) := by decide +kernel
theorem dX8_extent_7 : decode cX8_extent 7 = .ok (.istore 5, 2) := by decide +kernel
theorem dX8_extent_9 : decode cX8_extent 9 = .ok (.iload 5, 2) := by decide +kernel
theorem dX8_extent_11 : decode cX8_extent 11 = .ok (.aload_n 0, 1) := by decide +kernel
theorem dX8_extent_12 : decode cX8_extent 12 = .ok (.invokevirtual 76, 3) := by decide +kernel
theorem dX8_extent_15 : decode cX8_extent 15 = .ok (.if_icmp .ge 87, 3) := by decide +kernel
theorem dX8_extent_18 : decode cX8_extent 18 = .ok (.iload_n 2, 1) := by decide +kernel
theorem dX8_extent_19 : decode cX8_extent 19 = .ok (.ifCond .eq 13, 3) := by decide +kernel
theorem dX8_extent_22 : decode cX8_extent 22 = .ok (.iload 5, 2) := by decide +kernel
theorem dX8_extent_24 : decode cX8_extent 24 = .ok (.aload_n 0, 1) := by decide +kernel
theorem dX8_extent_25 : decode cX8_extent 25 = .ok (.getfield 7, 3) := by decide +kernel
theorem dX8_extent_28 : decode cX8_extent 28 = .ok (.idiv, 1) := by decide +kernel
theorem dX8_extent_29 : decode cX8_extent 29 = .ok (.goto 10, 3) := by decide +kernel
theorem dX8_extent_32 : decode cX8_extent 32 = .ok (.iload 5, 2) := by decide +kernel
theorem dX8_extent_34 : decode cX8_extent 34 = .ok (.aload_n 0, 1) := by decide +kernel
theorem dX8_extent_35 : decode cX8_extent 35 = .ok (.getfield 7, 3) := by decide +kernel
theorem dX8_extent_38 : decode cX8_extent 38 = .ok (.irem, 1) := by decide +kernel
theorem dX8_extent_39 : decode cX8_extent 39 = .ok (.istore 6, 2) := by decide +kernel
theorem dX8_extent_41 : decode cX8_extent 41 = .ok (.aload_n 0, 1) := by decide +kernel
theorem dX8_extent_42 : decode cX8_extent 42 = .ok (.getfield 38, 3) := by decide +kernel
theorem dX8_extent_45 : decode cX8_extent 45 = .ok (.iload_n 1, 1) := by decide +kernel
theorem dX8_extent_46 : decode cX8_extent 46 = .ok (.laload, 1) := by decide +kernel
theorem dX8_extent_47 : decode cX8_extent 47 = .ok (.iload 5, 2) := by decide +kernel
theorem dX8_extent_49 : decode cX8_extent 49 = .ok (.invokestatic 151, 3) := by decide +kernel
theorem dX8_extent_52 : decode cX8_extent 52 = .ok (.ifCond .eq 14, 3) := by decide +kernel
theorem dX8_extent_55 : decode cX8_extent 55 = .ok (.iload 6, 2) := by decide +kernel
theorem dX8_extent_57 : decode cX8_extent 57 = .ok (.iload_n 3, 1) := by decide +kernel
theorem dX8_extent_58 : decode cX8_extent 58 = .ok (.if_icmp .ge 8, 3) := by decide +kernel
theorem dX8_extent_61 : decode cX8_extent 61 = .ok (.iload 6, 2) := by decide +kernel
theorem dX8_extent_63 : decode cX8_extent 63 = .ok (.goto 4, 3) := by decide +kernel
theorem dX8_extent_66 : decode cX8_extent 66 = .ok (.iload_n 3, 1) := by decide +kernel
theorem dX8_extent_67 : decode cX8_extent 67 = .ok (.istore_n 3, 1) := by decide +kernel
theorem dX8_extent_68 : decode cX8_extent 68 = .ok (.aload_n 0, 1) := by decide +kernel
theorem dX8_extent_69 : decode cX8_extent 69 = .ok (.getfield 38, 3) := by decide +kernel
theorem dX8_extent_72 : decode cX8_extent 72 = .ok (.iload_n 1, 1) := by decide +kernel
theorem dX8_extent_73 : decode cX8_extent 73 = .ok (.laload, 1) := by decide +kernel
theorem dX8_extent_74 : decode cX8_extent 74 = .ok (.iload 5, 2) := by decide +kernel
theorem dX8_extent_76 : decode cX8_extent 76 = .ok (.invokestatic 151, 3) := by decide +kernel
theorem dX8_extent_79 : decode cX8_extent 79 = .ok (.ifCond .eq 13, 3) := by decide +kernel
theorem dX8_extent_82 : decode cX8_extent 82 = .ok (.iload 4, 2) := by decide +kernel
theorem dX8_extent_84 : decode cX8_extent 84 = .ok (.iload 6, 2) := by decide +kernel
theorem dX8_extent_86 : decode cX8_extent 86 = .ok (.invokestatic 199, 3) := by decide +kernel
theorem dX8_extent_89 : decode cX8_extent 89 = .ok (.goto 5, 3) := by decide +kernel
theorem dX8_extent_92 : decode cX8_extent 92 = .ok (.iload 4, 2) := by decide +kernel
theorem dX8_extent_94 : decode cX8_extent 94 = .ok (.istore 4, 2) := by decide +kernel
theorem dX8_extent_96 : decode cX8_extent 96 = .ok (.iinc 5 1, 3) := by decide +kernel
theorem dX8_extent_99 : decode cX8_extent 99 = .ok (.goto (-90), 3) := by decide +kernel
theorem dX8_extent_102 : decode cX8_extent 102 = .ok (.iload 4, 2) := by decide +kernel
theorem dX8_extent_104 : decode cX8_extent 104 = .ok (.iload_n 3, 1) := by decide +kernel
theorem dX8_extent_105 : decode cX8_extent 105 = .ok (.isub, 1) := by decide +kernel
theorem dX8_extent_106 : decode cX8_extent 106 = .ok (.iconst 1, 1) := by decide +kernel
theorem dX8_extent_107 : decode cX8_extent 107 = .ok (.iadd, 1) := by decide +kernel
theorem dX8_extent_108 : decode cX8_extent 108 = .ok (.ireturn, 1) := by decide +kernel
theorem dX8_perimeter_0 : decode cX8_perimeter 0 = .ok (.iconst 0, 1) := by decide +kernel
theorem dX8_perimeter_1 : decode cX8_perimeter 1 = .ok (.istore_n 2, 1) := by decide +kernel
theorem dX8_perimeter_2 : decode cX8_perimeter 2 = .ok (.iconst 0, 1) := by decide +kernel
theorem dX8_perimeter_3 : decode cX8_perimeter 3 = .ok (.istore_n 3, 1) := by decide +kernel
theorem dX8_perimeter_4 : decode cX8_perimeter 4 = .ok (.iload_n 3, 1) := by decide +kernel
theorem dX8_perimeter_5 : decode cX8_perimeter 5 = .ok (.aload_n 0, 1) := by decide +kernel
theorem dX8_perimeter_6 : decode cX8_perimeter 6 = .ok (.invokevirtual 76, 3) := by decide +kernel
theorem dX8_perimeter_9 : decode cX8_perimeter 9 = .ok (.if_icmp .ge 47, 3) := by decide +kernel
theorem dX8_perimeter_12 : decode cX8_perimeter 12 = .ok (.iload_n 2, 1) := by decide +kernel
theorem dX8_perimeter_13 : decode cX8_perimeter 13 = .ok (.aload_n 0, 1) := by decide +kernel
theorem dX8_perimeter_14 : decode cX8_perimeter 14 = .ok (.getfield 38, 3) := by decide +kernel
theorem dX8_perimeter_17 : decode cX8_perimeter 17 = .ok (.iload_n 1, 1) := by decide +kernel
theorem dX8_perimeter_18 : decode cX8_perimeter 18 = .ok (.laload, 1) := by decide +kernel
theorem dX8_perimeter_19 : decode cX8_perimeter 19 = .ok (.iload_n 3, 1) := by decide +kernel
theorem dX8_perimeter_20 : decode cX8_perimeter 20 = .ok (.invokestatic 151, 3) := by decide +kernel
theorem dX8_perimeter_23 : decode cX8_perimeter 23 = .ok (.ifCond .eq 24, 3) := by decide +kernel
theorem dX8_perimeter_26 : decode cX8_perimeter 26 = .ok (.iconst 4, 1) := by decide +kernel
theorem dX8_perimeter_27 : decode cX8_perimeter 27 = .ok (.aload_n 0, 1) := by decide +kernel
theorem dX8_perimeter_28 : decode cX8_perimeter 28 = .ok (.iload_n 3, 1) := by decide +kernel
theorem dX8_perimeter_29 : decode cX8_perimeter 29 = .ok (.iconst 0, 1) := by decide +kernel
theorem dX8_perimeter_30 : decode cX8_perimeter 30 = .ok (.invokevirtual 155, 3) := by decide +kernel
theorem dX8_perimeter_33 : decode cX8_perimeter 33 = .ok (.aload_n 0, 1) := by decide +kernel
theorem dX8_perimeter_34 : decode cX8_perimeter 34 = .ok (.getfield 38, 3) := by decide +kernel
theorem dX8_perimeter_37 : decode cX8_perimeter 37 = .ok (.iload_n 1, 1) := by decide +kernel
theorem dX8_perimeter_38 : decode cX8_perimeter 38 = .ok (.laload, 1) := by decide +kernel
theorem dX8_perimeter_39 : decode cX8_perimeter 39 = .ok (.land, 1) := by decide +kernel
theorem dX8_perimeter_40 : decode cX8_perimeter 40 = .ok (.invokestatic 202, 3) := by decide +kernel
theorem dX8_perimeter_43 : decode cX8_perimeter 43 = .ok (.isub, 1) := by decide +kernel
theorem dX8_perimeter_44 : decode cX8_perimeter 44 = .ok (.goto 4, 3) := by decide +kernel
theorem dX8_perimeter_47 : decode cX8_perimeter 47 = .ok (.iconst 0, 1) := by decide +kernel
theorem dX8_perimeter_48 : decode cX8_perimeter 48 = .ok (.iadd, 1) := by decide +kernel
theorem dX8_perimeter_49 : decode cX8_perimeter 49 = .ok (.istore_n 2, 1) := by decide +kernel
theorem dX8_perimeter_50 : decode cX8_perimeter 50 = .ok (.iinc 3 1, 3) := by decide +kernel
theorem dX8_perimeter_53 : decode cX8_perimeter 53 = .ok (.goto (-49), 3) := by decide +kernel
theorem dX8_perimeter_56 : decode cX8_perimeter 56 = .ok (.iload_n 2, 1) := by decide +kernel
theorem dX8_perimeter_57 : decode cX8_perimeter 57 = .ok (.ireturn, 1) := by decide +kernel
theorem dX8_rim_0 : decode cX8_rim 0 = .ok (.lconst 0, 1) := by decide +kernel
theorem dX8_rim_1 : decode cX8_rim 1 = .ok (.lstore_n 1, 1) := by decide +kernel
theorem dX8_rim_2 : decode cX8_rim 2 = .ok (.iconst 0, 1) := by decide +kernel
theorem dX8_rim_3 : decode cX8_rim 3 = .ok (.istore_n 3, 1) := by decide +kernel
theorem dX8_rim_4 : decode cX8_rim 4 = .ok (.iload_n 3, 1) := by decide +kernel
theorem dX8_rim_5 : decode cX8_rim 5 = .ok (.aload_n 0, 1) := by decide +kernel
theorem dX8_rim_6 : decode cX8_rim 6 = .ok (.invokevirtual 76, 3) := by decide +kernel
theorem dX8_rim_9 : decode cX8_rim 9 = .ok (.if_icmp .ge 67, 3) := by decide +kernel
theorem dX8_rim_12 : decode cX8_rim 12 = .ok (.iload_n 3, 1) := by decide +kernel
theorem dX8_rim_13 : decode cX8_rim 13 = .ok (.aload_n 0, 1) := by decide +kernel
theorem dX8_rim_14 : decode cX8_rim 14 = .ok (.getfield 7, 3) := by decide +kernel
theorem dX8_rim_17 : decode cX8_rim 17 = .ok (.irem, 1) := by decide +kernel
theorem dX8_rim_18 : decode cX8_rim 18 = .ok (.istore 4, 2) := by decide +kernel
theorem dX8_rim_20 : decode cX8_rim 20 = .ok (.iload_n 3, 1) := by decide +kernel
theorem dX8_rim_21 : decode cX8_rim 21 = .ok (.aload_n 0, 1) := by decide +kernel
theorem dX8_rim_22 : decode cX8_rim 22 = .ok (.getfield 7, 3) := by decide +kernel
theorem dX8_rim_25 : decode cX8_rim 25 = .ok (.idiv, 1) := by decide +kernel
theorem dX8_rim_26 : decode cX8_rim 26 = .ok (.istore 5, 2) := by decide +kernel
theorem dX8_rim_28 : decode cX8_rim 28 = .ok (.lload_n 1, 1) := by decide +kernel
theorem dX8_rim_29 : decode cX8_rim 29 = .ok (.iload 4, 2) := by decide +kernel
theorem dX8_rim_31 : decode cX8_rim 31 = .ok (.ifCond .eq 30, 3) := by decide +kernel
theorem dX8_rim_34 : decode cX8_rim 34 = .ok (.iload 5, 2) := by decide +kernel
theorem dX8_rim_36 : decode cX8_rim 36 = .ok (.ifCond .eq 25, 3) := by decide +kernel
theorem dX8_rim_39 : decode cX8_rim 39 = .ok (.iload 4, 2) := by decide +kernel
theorem dX8_rim_41 : decode cX8_rim 41 = .ok (.aload_n 0, 1) := by decide +kernel
theorem dX8_rim_42 : decode cX8_rim 42 = .ok (.getfield 7, 3) := by decide +kernel
theorem dX8_rim_45 : decode cX8_rim 45 = .ok (.iconst 1, 1) := by decide +kernel
theorem dX8_rim_46 : decode cX8_rim 46 = .ok (.isub, 1) := by decide +kernel
theorem dX8_rim_47 : decode cX8_rim 47 = .ok (.if_icmp .eq 14, 3) := by decide +kernel
theorem dX8_rim_50 : decode cX8_rim 50 = .ok (.iload 5, 2) := by decide +kernel
theorem dX8_rim_52 : decode cX8_rim 52 = .ok (.aload_n 0, 1) := by decide +kernel
theorem dX8_rim_53 : decode cX8_rim 53 = .ok (.getfield 13, 3) := by decide +kernel
theorem dX8_rim_56 : decode cX8_rim 56 = .ok (.iconst 1, 1) := by decide +kernel
theorem dX8_rim_57 : decode cX8_rim 57 = .ok (.isub, 1) := by decide +kernel
theorem dX8_rim_58 : decode cX8_rim 58 = .ok (.if_icmp .ne 9, 3) := by decide +kernel
theorem dX8_rim_61 : decode cX8_rim 61 = .ok (.lconst 1, 1) := by decide +kernel
theorem dX8_rim_62 : decode cX8_rim 62 = .ok (.iload_n 3, 1) := by decide +kernel
theorem dX8_rim_63 : decode cX8_rim 63 = .ok (.lshl, 1) := by decide +kernel
theorem dX8_rim_64 : decode cX8_rim 64 = .ok (.goto 4, 3) := by decide +kernel
theorem dX8_rim_67 : decode cX8_rim 67 = .ok (.lconst 0, 1) := by decide +kernel
theorem dX8_rim_68 : decode cX8_rim 68 = .ok (.lor, 1) := by decide +kernel
theorem dX8_rim_69 : decode cX8_rim 69 = .ok (.lstore_n 1, 1) := by decide +kernel
theorem dX8_rim_70 : decode cX8_rim 70 = .ok (.iinc 3 1, 3) := by decide +kernel
theorem dX8_rim_73 : decode cX8_rim 73 = .ok (.goto (-69), 3) := by decide +kernel
theorem dX8_rim_76 : decode cX8_rim 76 = .ok (.lload_n 1, 1) := by decide +kernel
theorem dX8_rim_77 : decode cX8_rim 77 = .ok (.lreturn, 1) := by decide +kernel
theorem dX8_holes_0 : decode cX8_holes 0 = .ok (.aload_n 0, 1) := by decide +kernel
theorem dX8_holes_1 : decode cX8_holes 1 = .ok (.invokevirtual 218, 3) := by decide +kernel
theorem dX8_holes_4 : decode cX8_holes 4 = .ok (.aload_n 0, 1) := by decide +kernel
theorem dX8_holes_5 : decode cX8_holes 5 = .ok (.getfield 38, 3) := by decide +kernel
theorem dX8_holes_8 : decode cX8_holes 8 = .ok (.iload_n 1, 1) := by decide +kernel
theorem dX8_holes_9 : decode cX8_holes 9 = .ok (.laload, 1) := by decide +kernel
theorem dX8_holes_10 : decode cX8_holes 10 = .ok (.ldc2_w 88, 3) := by decide +kernel
theorem dX8_holes_13 : decode cX8_holes 13 = .ok (.lxor, 1) := by decide +kernel
theorem dX8_holes_14 : decode cX8_holes 14 = .ok (.land, 1) := by decide +kernel
theorem dX8_holes_15 : decode cX8_holes 15 = .ok (.lstore_n 2, 1) := by decide +kernel
theorem dX8_holes_16 : decode cX8_holes 16 = .ok (.iconst 0, 1) := by decide +kernel
theorem dX8_holes_17 : decode cX8_holes 17 = .ok (.istore 4, 2) := by decide +kernel
theorem dX8_holes_19 : decode cX8_holes 19 = .ok (.iconst 0, 1) := by decide +kernel
theorem dX8_holes_20 : decode cX8_holes 20 = .ok (.istore 5, 2) := by decide +kernel
theorem dX8_holes_22 : decode cX8_holes 22 = .ok (.iload 5, 2) := by decide +kernel
theorem dX8_holes_24 : decode cX8_holes 24 = .ok (.aload_n 0, 1) := by decide +kernel
theorem dX8_holes_25 : decode cX8_holes 25 = .ok (.invokevirtual 76, 3) := by decide +kernel
theorem dX8_holes_28 : decode cX8_holes 28 = .ok (.if_icmp .ge 98, 3) := by decide +kernel
theorem dX8_holes_31 : decode cX8_holes 31 = .ok (.lload_n 2, 1) := by decide +kernel
theorem dX8_holes_32 : decode cX8_holes 32 = .ok (.iload 5, 2) := by decide +kernel
theorem dX8_holes_34 : decode cX8_holes 34 = .ok (.invokestatic 151, 3) := by decide +kernel
theorem dX8_holes_37 : decode cX8_holes 37 = .ok (.ifCond .eq 25, 3) := by decide +kernel
theorem dX8_holes_40 : decode cX8_holes 40 = .ok (.aload_n 0, 1) := by decide +kernel
theorem dX8_holes_41 : decode cX8_holes 41 = .ok (.iload 5, 2) := by decide +kernel
theorem dX8_holes_43 : decode cX8_holes 43 = .ok (.lload_n 2, 1) := by decide +kernel
theorem dX8_holes_44 : decode cX8_holes 44 = .ok (.aload_n 0, 1) := by decide +kernel
theorem dX8_holes_45 : decode cX8_holes 45 = .ok (.getfield 123, 3) := by decide +kernel
theorem dX8_holes_48 : decode cX8_holes 48 = .ok (.ifCond .ne 7, 3) := by decide +kernel
theorem dX8_holes_51 : decode cX8_holes 51 = .ok (.iconst 1, 1) := by decide +kernel
theorem dX8_holes_52 : decode cX8_holes 52 = .ok (.goto 4, 3) := by decide +kernel
theorem dX8_holes_55 : decode cX8_holes 55 = .ok (.iconst 0, 1) := by decide +kernel
theorem dX8_holes_56 : decode cX8_holes 56 = .ok (.invokevirtual 177, 3) := by decide +kernel
theorem dX8_holes_59 : decode cX8_holes 59 = .ok (.goto 4, 3) := by decide +kernel
theorem dX8_holes_62 : decode cX8_holes 62 = .ok (.lconst 0, 1) := by decide +kernel
theorem dX8_holes_63 : decode cX8_holes 63 = .ok (.lstore 6, 2) := by decide +kernel
theorem dX8_holes_65 : decode cX8_holes 65 = .ok (.lload 6, 2) := by decide +kernel
theorem dX8_holes_67 : decode cX8_holes 67 = .ok (.lconst 0, 1) := by decide +kernel
theorem dX8_holes_68 : decode cX8_holes 68 = .ok (.lcmp, 1) := by decide +kernel
theorem dX8_holes_69 : decode cX8_holes 69 = .ok (.ifCond .eq 33, 3) := by decide +kernel
theorem dX8_holes_72 : decode cX8_holes 72 = .ok (.lload 6, 2) := by decide +kernel
theorem dX8_holes_74 : decode cX8_holes 74 = .ok (.lconst 1, 1) := by decide +kernel
theorem dX8_holes_75 : decode cX8_holes 75 = .ok (.iload 5, 2) := by decide +kernel
theorem dX8_holes_77 : decode cX8_holes 77 = .ok (.lshl, 1) := by decide +kernel
theorem dX8_holes_78 : decode cX8_holes 78 = .ok (.lconst 1, 1) := by decide +kernel
theorem dX8_holes_79 : decode cX8_holes 79 = .ok (.lsub, 1) := by decide +kernel
theorem dX8_holes_80 : decode cX8_holes 80 = .ok (.land, 1) := by decide +kernel
theorem dX8_holes_81 : decode cX8_holes 81 = .ok (.lconst 0, 1) := by decide +kernel
theorem dX8_holes_82 : decode cX8_holes 82 = .ok (.lcmp, 1) := by decide +kernel
theorem dX8_holes_83 : decode cX8_holes 83 = .ok (.ifCond .ne 19, 3) := by decide +kernel
theorem dX8_holes_86 : decode cX8_holes 86 = .ok (.lload 6, 2) := by decide +kernel
theorem dX8_holes_88 : decode cX8_holes 88 = .ok (.aload_n 0, 1) := by decide +kernel
theorem dX8_holes_89 : decode cX8_holes 89 = .ok (.invokevirtual 222, 3) := by decide +kernel
theorem dX8_holes_92 : decode cX8_holes 92 = .ok (.land, 1) := by decide +kernel
theorem dX8_holes_93 : decode cX8_holes 93 = .ok (.lconst 0, 1) := by decide +kernel
theorem dX8_holes_94 : decode cX8_holes 94 = .ok (.lcmp, 1) := by decide +kernel
theorem dX8_holes_95 : decode cX8_holes 95 = .ok (.ifCond .ne 7, 3) := by decide +kernel
theorem dX8_holes_98 : decode cX8_holes 98 = .ok (.iconst 1, 1) := by decide +kernel
theorem dX8_holes_99 : decode cX8_holes 99 = .ok (.goto 4, 3) := by decide +kernel
theorem dX8_holes_102 : decode cX8_holes 102 = .ok (.iconst 0, 1) := by decide +kernel
theorem dX8_holes_103 : decode cX8_holes 103 = .ok (.istore 8, 2) := by decide +kernel
theorem dX8_holes_105 : decode cX8_holes 105 = .ok (.iload 4, 2) := by decide +kernel
theorem dX8_holes_107 : decode cX8_holes 107 = .ok (.iload 8, 2) := by decide +kernel
theorem dX8_holes_109 : decode cX8_holes 109 = .ok (.ifCond .eq 7, 3) := by decide +kernel
theorem dX8_holes_112 : decode cX8_holes 112 = .ok (.iconst 1, 1) := by decide +kernel
theorem dX8_holes_113 : decode cX8_holes 113 = .ok (.goto 4, 3) := by decide +kernel
theorem dX8_holes_116 : decode cX8_holes 116 = .ok (.iconst 0, 1) := by decide +kernel
theorem dX8_holes_117 : decode cX8_holes 117 = .ok (.iadd, 1) := by decide +kernel
theorem dX8_holes_118 : decode cX8_holes 118 = .ok (.istore 4, 2) := by decide +kernel
theorem dX8_holes_120 : decode cX8_holes 120 = .ok (.iinc 5 1, 3) := by decide +kernel
theorem dX8_holes_123 : decode cX8_holes 123 = .ok (.goto (-101), 3) := by decide +kernel
theorem dX8_holes_126 : decode cX8_holes 126 = .ok (.iload 4, 2) := by decide +kernel
theorem dX8_holes_128 : decode cX8_holes 128 = .ok (.ireturn, 1) := by decide +kernel
theorem dX8_bestProminence_0 : decode cX8_bestProminence 0 = .ok (.iconst 0, 1) := by decide +kernel
theorem dX8_bestProminence_1 : decode cX8_bestProminence 1 = .ok (.istore_n 2, 1) := by decide +kernel
theorem dX8_bestProminence_2 : decode cX8_bestProminence 2 = .ok (.iconst 0, 1) := by decide +kernel
theorem dX8_bestProminence_3 : decode cX8_bestProminence 3 = .ok (.istore_n 3, 1) := by decide +kernel
theorem dX8_bestProminence_4 : decode cX8_bestProminence 4 = .ok (.iload_n 3, 1) := by decide +kernel
theorem dX8_bestProminence_5 : decode cX8_bestProminence 5 = .ok (.aload_n 0, 1) := by decide +kernel
theorem dX8_bestProminence_6 : decode cX8_bestProminence 6 = .ok (.getfield 116, 3) := by decide +kernel
theorem dX8_bestProminence_9 : decode cX8_bestProminence 9 = .ok (.if_icmp .ge 58, 3) := by decide +kernel
theorem dX8_bestProminence_12 : decode cX8_bestProminence 12 = .ok (.aload_n 0, 1) := by decide +kernel
theorem dX8_bestProminence_13 : decode cX8_bestProminence 13 = .ok (.iload_n 3, 1) := by decide +kernel
theorem dX8_bestProminence_14 : decode cX8_bestProminence 14 = .ok (.invokevirtual 184, 3) := by decide +kernel
theorem dX8_bestProminence_17 : decode cX8_bestProminence 17 = .ok (.ifCond .eq 21, 3) := by decide +kernel
theorem dX8_bestProminence_20 : decode cX8_bestProminence 20 = .ok (.iload_n 3, 1) := by decide +kernel
theorem dX8_bestProminence_21 : decode cX8_bestProminence 21 = .ok (.iload_n 1, 1) := by decide +kernel
theorem dX8_bestProminence_22 : decode cX8_bestProminence 22 = .ok (.if_icmp .eq 12, 3) := by decide +kernel
theorem dX8_bestProminence_25 : decode cX8_bestProminence 25 = .ok (.aload_n 0, 1) := by decide +kernel
theorem dX8_bestProminence_26 : decode cX8_bestProminence 26 = .ok (.iload_n 3, 1) := by decide +kernel
theorem dX8_bestProminence_27 : decode cX8_bestProminence 27 = .ok (.iload_n 1, 1) := by decide +kernel
theorem dX8_bestProminence_28 : decode cX8_bestProminence 28 = .ok (.invokevirtual 170, 3) := by decide +kernel
theorem dX8_bestProminence_31 : decode cX8_bestProminence 31 = .ok (.ifCond .eq 7, 3) := by decide +kernel
theorem dX8_bestProminence_34 : decode cX8_bestProminence 34 = .ok (.iconst 1, 1) := by decide +kernel
theorem dX8_bestProminence_35 : decode cX8_bestProminence 35 = .ok (.goto 4, 3) := by decide +kernel
theorem dX8_bestProminence_38 : decode cX8_bestProminence 38 = .ok (.iconst 0, 1) := by decide +kernel
theorem dX8_bestProminence_39 : decode cX8_bestProminence 39 = .ok (.istore 4, 2) := by decide +kernel
theorem dX8_bestProminence_41 : decode cX8_bestProminence 41 = .ok (.iload 4, 2) := by decide +kernel
theorem dX8_bestProminence_43 : decode cX8_bestProminence 43 = .ok (.ifCond .eq 16, 3) := by decide +kernel
theorem dX8_bestProminence_46 : decode cX8_bestProminence 46 = .ok (.iload_n 2, 1) := by decide +kernel
theorem dX8_bestProminence_47 : decode cX8_bestProminence 47 = .ok (.aload_n 0, 1) := by decide +kernel
theorem dX8_bestProminence_48 : decode cX8_bestProminence 48 = .ok (.getfield 54, 3) := by decide +kernel
theorem dX8_bestProminence_51 : decode cX8_bestProminence 51 = .ok (.iload_n 3, 1) := by decide +kernel
theorem dX8_bestProminence_52 : decode cX8_bestProminence 52 = .ok (.iaload, 1) := by decide +kernel
theorem dX8_bestProminence_53 : decode cX8_bestProminence 53 = .ok (.invokestatic 199, 3) := by decide +kernel
theorem dX8_bestProminence_56 : decode cX8_bestProminence 56 = .ok (.goto 4, 3) := by decide +kernel
theorem dX8_bestProminence_59 : decode cX8_bestProminence 59 = .ok (.iload_n 2, 1) := by decide +kernel
theorem dX8_bestProminence_60 : decode cX8_bestProminence 60 = .ok (.istore_n 2, 1) := by decide +kernel
theorem dX8_bestProminence_61 : decode cX8_bestProminence 61 = .ok (.iinc 3 1, 3) := by decide +kernel
theorem dX8_bestProminence_64 : decode cX8_bestProminence 64 = .ok (.goto (-60), 3) := by decide +kernel
theorem dX8_bestProminence_67 : decode cX8_bestProminence 67 = .ok (.iload_n 2, 1) := by decide +kernel
theorem dX8_bestProminence_68 : decode cX8_bestProminence 68 = .ok (.ireturn, 1) := by decide +kernel
theorem dX8_attributeOf_0 : decode cX8_attributeOf 0 = .ok (.iload_n 2, 1) := by decide +kernel
theorem dX8_attributeOf_1 : decode cX8_attributeOf 1 = .ok (.tableswitch 151 0 10 #[59, 66, 76, 82, 89, 96, 102, 125, 132, 139, 145], 59) := by decide +kernel
theorem dX8_attributeOf_60 : decode cX8_attributeOf 60 = .ok (.aload_n 0, 1) := by decide +kernel
theorem dX8_attributeOf_61 : decode cX8_attributeOf 61 = .ok (.getfield 42, 3) := by decide +kernel
theorem dX8_attributeOf_64 : decode cX8_attributeOf 64 = .ok (.iload_n 1, 1) := by decide +kernel
theorem dX8_attributeOf_65 : decode cX8_attributeOf 65 = .ok (.iaload, 1) := by decide +kernel
theorem dX8_attributeOf_66 : decode cX8_attributeOf 66 = .ok (.ireturn, 1) := by decide +kernel
theorem dX8_attributeOf_67 : decode cX8_attributeOf 67 = .ok (.aload_n 0, 1) := by decide +kernel
theorem dX8_attributeOf_68 : decode cX8_attributeOf 68 = .ok (.getfield 38, 3) := by decide +kernel
theorem dX8_attributeOf_71 : decode cX8_attributeOf 71 = .ok (.iload_n 1, 1) := by decide +kernel
theorem dX8_attributeOf_72 : decode cX8_attributeOf 72 = .ok (.laload, 1) := by decide +kernel
theorem dX8_attributeOf_73 : decode cX8_attributeOf 73 = .ok (.invokestatic 202, 3) := by decide +kernel
theorem dX8_attributeOf_76 : decode cX8_attributeOf 76 = .ok (.ireturn, 1) := by decide +kernel
theorem dX8_attributeOf_77 : decode cX8_attributeOf 77 = .ok (.aload_n 0, 1) := by decide +kernel
theorem dX8_attributeOf_78 : decode cX8_attributeOf 78 = .ok (.iload_n 1, 1) := by decide +kernel
theorem dX8_attributeOf_79 : decode cX8_attributeOf 79 = .ok (.invokevirtual 225, 3) := by decide +kernel
theorem dX8_attributeOf_82 : decode cX8_attributeOf 82 = .ok (.ireturn, 1) := by decide +kernel
theorem dX8_attributeOf_83 : decode cX8_attributeOf 83 = .ok (.aload_n 0, 1) := by decide +kernel
theorem dX8_attributeOf_84 : decode cX8_attributeOf 84 = .ok (.getfield 45, 3) := by decide +kernel
theorem dX8_attributeOf_87 : decode cX8_attributeOf 87 = .ok (.iload_n 1, 1) := by decide +kernel
theorem dX8_attributeOf_88 : decode cX8_attributeOf 88 = .ok (.iaload, 1) := by decide +kernel
theorem dX8_attributeOf_89 : decode cX8_attributeOf 89 = .ok (.ireturn, 1) := by decide +kernel
theorem dX8_attributeOf_90 : decode cX8_attributeOf 90 = .ok (.aload_n 0, 1) := by decide +kernel
theorem dX8_attributeOf_91 : decode cX8_attributeOf 91 = .ok (.getfield 48, 3) := by decide +kernel
theorem dX8_attributeOf_94 : decode cX8_attributeOf 94 = .ok (.iload_n 1, 1) := by decide +kernel
theorem dX8_attributeOf_95 : decode cX8_attributeOf 95 = .ok (.iaload, 1) := by decide +kernel
theorem dX8_attributeOf_96 : decode cX8_attributeOf 96 = .ok (.ireturn, 1) := by decide +kernel
theorem dX8_attributeOf_97 : decode cX8_attributeOf 97 = .ok (.aload_n 0, 1) := by decide +kernel
theorem dX8_attributeOf_98 : decode cX8_attributeOf 98 = .ok (.iload_n 1, 1) := by decide +kernel
theorem dX8_attributeOf_99 : decode cX8_attributeOf 99 = .ok (.invokevirtual 228, 3) := by decide +kernel
theorem dX8_attributeOf_102 : decode cX8_attributeOf 102 = .ok (.ireturn, 1) := by decide +kernel
theorem dX8_attributeOf_103 : decode cX8_attributeOf 103 = .ok (.aload_n 0, 1) := by decide +kernel
theorem dX8_attributeOf_104 : decode cX8_attributeOf 104 = .ok (.iload_n 1, 1) := by decide +kernel
theorem dX8_attributeOf_105 : decode cX8_attributeOf 105 = .ok (.invokevirtual 231, 3) := by decide +kernel
theorem dX8_attributeOf_108 : decode cX8_attributeOf 108 = .ok (.aload_n 0, 1) := by decide +kernel
theorem dX8_attributeOf_109 : decode cX8_attributeOf 109 = .ok (.getfield 42, 3) := by decide +kernel
theorem dX8_attributeOf_112 : decode cX8_attributeOf 112 = .ok (.iload_n 1, 1) := by decide +kernel
theorem dX8_attributeOf_113 : decode cX8_attributeOf 113 = .ok (.iaload, 1) := by decide +kernel
theorem dX8_attributeOf_114 : decode cX8_attributeOf 114 = .ok (.aload_n 0, 1) := by decide +kernel
theorem dX8_attributeOf_115 : decode cX8_attributeOf 115 = .ok (.getfield 38, 3) := by decide +kernel
theorem dX8_attributeOf_118 : decode cX8_attributeOf 118 = .ok (.iload_n 1, 1) := by decide +kernel
theorem dX8_attributeOf_119 : decode cX8_attributeOf 119 = .ok (.laload, 1) := by decide +kernel
theorem dX8_attributeOf_120 : decode cX8_attributeOf 120 = .ok (.invokestatic 202, 3) := by decide +kernel
theorem dX8_attributeOf_123 : decode cX8_attributeOf 123 = .ok (.imul, 1) := by decide +kernel
theorem dX8_attributeOf_124 : decode cX8_attributeOf 124 = .ok (.isub, 1) := by decide +kernel
theorem dX8_attributeOf_125 : decode cX8_attributeOf 125 = .ok (.ireturn, 1) := by decide +kernel
theorem dX8_attributeOf_126 : decode cX8_attributeOf 126 = .ok (.aload_n 0, 1) := by decide +kernel
theorem dX8_attributeOf_127 : decode cX8_attributeOf 127 = .ok (.iload_n 1, 1) := by decide +kernel
theorem dX8_attributeOf_128 : decode cX8_attributeOf 128 = .ok (.iconst 0, 1) := by decide +kernel
theorem dX8_attributeOf_129 : decode cX8_attributeOf 129 = .ok (.invokevirtual 234, 3) := by decide +kernel
theorem dX8_attributeOf_132 : decode cX8_attributeOf 132 = .ok (.ireturn, 1) := by decide +kernel
theorem dX8_attributeOf_133 : decode cX8_attributeOf 133 = .ok (.aload_n 0, 1) := by decide +kernel
theorem dX8_attributeOf_134 : decode cX8_attributeOf 134 = .ok (.iload_n 1, 1) := by decide +kernel
theorem dX8_attributeOf_135 : decode cX8_attributeOf 135 = .ok (.iconst 1, 1) := by decide +kernel
theorem dX8_attributeOf_136 : decode cX8_attributeOf 136 = .ok (.invokevirtual 234, 3) := by decide +kernel
theorem dX8_attributeOf_139 : decode cX8_attributeOf 139 = .ok (.ireturn, 1) := by decide +kernel
theorem dX8_attributeOf_140 : decode cX8_attributeOf 140 = .ok (.aload_n 0, 1) := by decide +kernel
theorem dX8_attributeOf_141 : decode cX8_attributeOf 141 = .ok (.iload_n 1, 1) := by decide +kernel
theorem dX8_attributeOf_142 : decode cX8_attributeOf 142 = .ok (.invokevirtual 238, 3) := by decide +kernel
theorem dX8_attributeOf_145 : decode cX8_attributeOf 145 = .ok (.ireturn, 1) := by decide +kernel
theorem dX8_attributeOf_146 : decode cX8_attributeOf 146 = .ok (.aload_n 0, 1) := by decide +kernel
theorem dX8_attributeOf_147 : decode cX8_attributeOf 147 = .ok (.iload_n 1, 1) := by decide +kernel
theorem dX8_attributeOf_148 : decode cX8_attributeOf 148 = .ok (.invokevirtual 241, 3) := by decide +kernel
theorem dX8_attributeOf_151 : decode cX8_attributeOf 151 = .ok (.ireturn, 1) := by decide +kernel
theorem dX8_attributeOf_152 : decode cX8_attributeOf 152 = .ok (.aload_n 0, 1) := by decide +kernel
theorem dX8_attributeOf_153 : decode cX8_attributeOf 153 = .ok (.iload_n 1, 1) := by decide +kernel
theorem dX8_attributeOf_154 : decode cX8_attributeOf 154 = .ok (.invokevirtual 244, 3) := by decide +kernel
theorem dX8_attributeOf_157 : decode cX8_attributeOf 157 = .ok (.ireturn, 1) := by decide +kernel
theorem dX8_attribute_0 : decode cX8_attribute 0 = .ok (.aload_n 0, 1) := by decide +kernel
theorem dX8_attribute_1 : decode cX8_attribute 1 = .ok (.aload_n 0, 1) := by decide +kernel
theorem dX8_attribute_2 : decode cX8_attribute 2 = .ok (.iload_n 1, 1) := by decide +kernel
theorem dX8_attribute_3 : decode cX8_attribute 3 = .ok (.invokevirtual 247, 3) := by decide +kernel
theorem dX8_attribute_6 : decode cX8_attribute 6 = .ok (.ifCond .ne 7, 3) := by decide +kernel
theorem dX8_attribute_9 : decode cX8_attribute 9 = .ok (.iconst 1, 1) := by decide +kernel
theorem dX8_attribute_10 : decode cX8_attribute 10 = .ok (.goto 18, 3) := by decide +kernel
theorem dX8_attribute_13 : decode cX8_attribute 13 = .ok (.iload_n 2, 1) := by decide +kernel
theorem dX8_attribute_14 : decode cX8_attribute 14 = .ok (.iconst 0, 1) := by decide +kernel
theorem dX8_attribute_15 : decode cX8_attribute 15 = .ok (.bipush 11, 2) := by decide +kernel
theorem dX8_attribute_17 : decode cX8_attribute 17 = .ok (.invokestatic 80, 3) := by decide +kernel
theorem dX8_attribute_20 : decode cX8_attribute 20 = .ok (.ifCond .eq 7, 3) := by decide +kernel
theorem dX8_attribute_23 : decode cX8_attribute 23 = .ok (.iconst 0, 1) := by decide +kernel
theorem dX8_attribute_24 : decode cX8_attribute 24 = .ok (.goto 4, 3) := by decide +kernel
theorem dX8_attribute_27 : decode cX8_attribute 27 = .ok (.iconst 2, 1) := by decide +kernel
theorem dX8_attribute_28 : decode cX8_attribute 28 = .ok (.putfield 73, 3) := by decide +kernel
theorem dX8_attribute_31 : decode cX8_attribute 31 = .ok (.aload_n 0, 1) := by decide +kernel
theorem dX8_attribute_32 : decode cX8_attribute 32 = .ok (.getfield 73, 3) := by decide +kernel
theorem dX8_attribute_35 : decode cX8_attribute 35 = .ok (.ifCond .le 7, 3) := by decide +kernel
theorem dX8_attribute_38 : decode cX8_attribute 38 = .ok (.iconst 0, 1) := by decide +kernel
theorem dX8_attribute_39 : decode cX8_attribute 39 = .ok (.goto 9, 3) := by decide +kernel
theorem dX8_attribute_42 : decode cX8_attribute 42 = .ok (.aload_n 0, 1) := by decide +kernel
theorem dX8_attribute_43 : decode cX8_attribute 43 = .ok (.iload_n 1, 1) := by decide +kernel
theorem dX8_attribute_44 : decode cX8_attribute 44 = .ok (.iload_n 2, 1) := by decide +kernel
theorem dX8_attribute_45 : decode cX8_attribute 45 = .ok (.invokevirtual 250, 3) := by decide +kernel
theorem dX8_attribute_48 : decode cX8_attribute 48 = .ok (.ireturn, 1) := by decide +kernel
theorem dX8_meanRank_0 : decode cX8_meanRank 0 = .ok (.aload_n 0, 1) := by decide +kernel
theorem dX8_meanRank_1 : decode cX8_meanRank 1 = .ok (.aload_n 0, 1) := by decide +kernel
theorem dX8_meanRank_2 : decode cX8_meanRank 2 = .ok (.iload_n 1, 1) := by decide +kernel
theorem dX8_meanRank_3 : decode cX8_meanRank 3 = .ok (.invokevirtual 247, 3) := by decide +kernel
theorem dX8_meanRank_6 : decode cX8_meanRank 6 = .ok (.ifCond .eq 7, 3) := by decide +kernel
theorem dX8_meanRank_9 : decode cX8_meanRank 9 = .ok (.iconst 0, 1) := by decide +kernel
theorem dX8_meanRank_10 : decode cX8_meanRank 10 = .ok (.goto 4, 3) := by decide +kernel
theorem dX8_meanRank_13 : decode cX8_meanRank 13 = .ok (.iconst 1, 1) := by decide +kernel
theorem dX8_meanRank_14 : decode cX8_meanRank 14 = .ok (.putfield 73, 3) := by decide +kernel
theorem dX8_meanRank_17 : decode cX8_meanRank 17 = .ok (.aload_n 0, 1) := by decide +kernel
theorem dX8_meanRank_18 : decode cX8_meanRank 18 = .ok (.getfield 73, 3) := by decide +kernel
theorem dX8_meanRank_21 : decode cX8_meanRank 21 = .ok (.ifCond .le 7, 3) := by decide +kernel
theorem dX8_meanRank_24 : decode cX8_meanRank 24 = .ok (.dconst 0, 1) := by decide +kernel
theorem dX8_meanRank_25 : decode cX8_meanRank 25 = .ok (.goto 20, 3) := by decide +kernel
theorem dX8_meanRank_28 : decode cX8_meanRank 28 = .ok (.aload_n 0, 1) := by decide +kernel
theorem dX8_meanRank_29 : decode cX8_meanRank 29 = .ok (.iload_n 1, 1) := by decide +kernel
theorem dX8_meanRank_30 : decode cX8_meanRank 30 = .ok (.invokevirtual 231, 3) := by decide +kernel
theorem dX8_meanRank_33 : decode cX8_meanRank 33 = .ok (.i2d, 1) := by decide +kernel
theorem dX8_meanRank_34 : decode cX8_meanRank 34 = .ok (.aload_n 0, 1) := by decide +kernel
theorem dX8_meanRank_35 : decode cX8_meanRank 35 = .ok (.getfield 38, 3) := by decide +kernel
theorem dX8_meanRank_38 : decode cX8_meanRank 38 = .ok (.iload_n 1, 1) := by decide +kernel
theorem dX8_meanRank_39 : decode cX8_meanRank 39 = .ok (.laload, 1) := by decide +kernel
theorem dX8_meanRank_40 : decode cX8_meanRank 40 = .ok (.invokestatic 202, 3) := by decide +kernel
theorem dX8_meanRank_43 : decode cX8_meanRank 43 = .ok (.i2d, 1) := by decide +kernel
theorem dX8_meanRank_44 : decode cX8_meanRank 44 = .ok (.ddiv, 1) := by decide +kernel
theorem dX8_meanRank_45 : decode cX8_meanRank 45 = .ok (.dreturn, 1) := by decide +kernel
theorem dX8_contains_0 : decode cX8_contains 0 = .ok (.aload_n 0, 1) := by decide +kernel
theorem dX8_contains_1 : decode cX8_contains 1 = .ok (.aload_n 0, 1) := by decide +kernel
theorem dX8_contains_2 : decode cX8_contains 2 = .ok (.iload_n 1, 1) := by decide +kernel
theorem dX8_contains_3 : decode cX8_contains 3 = .ok (.invokevirtual 247, 3) := by decide +kernel
theorem dX8_contains_6 : decode cX8_contains 6 = .ok (.ifCond .eq 15, 3) := by decide +kernel
theorem dX8_contains_9 : decode cX8_contains 9 = .ok (.aload_n 0, 1) := by decide +kernel
theorem dX8_contains_10 : decode cX8_contains 10 = .ok (.iload_n 2, 1) := by decide +kernel
theorem dX8_contains_11 : decode cX8_contains 11 = .ok (.invokevirtual 106, 3) := by decide +kernel
theorem dX8_contains_14 : decode cX8_contains 14 = .ok (.ifCond .eq 7, 3) := by decide +kernel
theorem dX8_contains_17 : decode cX8_contains 17 = .ok (.iconst 0, 1) := by decide +kernel
theorem dX8_contains_18 : decode cX8_contains 18 = .ok (.goto 4, 3) := by decide +kernel
theorem dX8_contains_21 : decode cX8_contains 21 = .ok (.iconst 1, 1) := by decide +kernel
theorem dX8_contains_22 : decode cX8_contains 22 = .ok (.putfield 73, 3) := by decide +kernel
theorem dX8_contains_25 : decode cX8_contains 25 = .ok (.aload_n 0, 1) := by decide +kernel
theorem dX8_contains_26 : decode cX8_contains 26 = .ok (.getfield 73, 3) := by decide +kernel
theorem dX8_contains_29 : decode cX8_contains 29 = .ok (.ifCond .ne 20, 3) := by decide +kernel
theorem dX8_contains_32 : decode cX8_contains 32 = .ok (.aload_n 0, 1) := by decide +kernel
theorem dX8_contains_33 : decode cX8_contains 33 = .ok (.getfield 38, 3) := by decide +kernel
theorem dX8_contains_36 : decode cX8_contains 36 = .ok (.iload_n 1, 1) := by decide +kernel
theorem dX8_contains_37 : decode cX8_contains 37 = .ok (.laload, 1) := by decide +kernel
theorem dX8_contains_38 : decode cX8_contains 38 = .ok (.iload_n 2, 1) := by decide +kernel
theorem dX8_contains_39 : decode cX8_contains 39 = .ok (.invokestatic 151, 3) := by decide +kernel
theorem dX8_contains_42 : decode cX8_contains 42 = .ok (.ifCond .eq 7, 3) := by decide +kernel
theorem dX8_contains_45 : decode cX8_contains 45 = .ok (.iconst 1, 1) := by decide +kernel
theorem dX8_contains_46 : decode cX8_contains 46 = .ok (.goto 4, 3) := by decide +kernel
theorem dX8_contains_49 : decode cX8_contains 49 = .ok (.iconst 0, 1) := by decide +kernel
theorem dX8_contains_50 : decode cX8_contains 50 = .ok (.ireturn, 1) := by decide +kernel
theorem dX8_child_0 : decode cX8_child 0 = .ok (.aload_n 0, 1) := by decide +kernel
theorem dX8_child_1 : decode cX8_child 1 = .ok (.aload_n 0, 1) := by decide +kernel
theorem dX8_child_2 : decode cX8_child 2 = .ok (.iload_n 1, 1) := by decide +kernel
theorem dX8_child_3 : decode cX8_child 3 = .ok (.invokevirtual 247, 3) := by decide +kernel
theorem dX8_child_6 : decode cX8_child 6 = .ok (.ifCond .eq 23, 3) := by decide +kernel
theorem dX8_child_9 : decode cX8_child 9 = .ok (.iload_n 2, 1) := by decide +kernel
theorem dX8_child_10 : decode cX8_child 10 = .ok (.iconst 0, 1) := by decide +kernel
theorem dX8_child_11 : decode cX8_child 11 = .ok (.aload_n 0, 1) := by decide +kernel
theorem dX8_child_12 : decode cX8_child 12 = .ok (.getfield 48, 3) := by decide +kernel
theorem dX8_child_15 : decode cX8_child 15 = .ok (.iload_n 1, 1) := by decide +kernel
theorem dX8_child_16 : decode cX8_child 16 = .ok (.iaload, 1) := by decide +kernel
theorem dX8_child_17 : decode cX8_child 17 = .ok (.iconst 1, 1) := by decide +kernel
theorem dX8_child_18 : decode cX8_child 18 = .ok (.isub, 1) := by decide +kernel
theorem dX8_child_19 : decode cX8_child 19 = .ok (.invokestatic 80, 3) := by decide +kernel
theorem dX8_child_22 : decode cX8_child 22 = .ok (.ifCond .eq 7, 3) := by decide +kernel
theorem dX8_child_25 : decode cX8_child 25 = .ok (.iconst 0, 1) := by decide +kernel
theorem dX8_child_26 : decode cX8_child 26 = .ok (.goto 4, 3) := by decide +kernel
theorem dX8_child_29 : decode cX8_child 29 = .ok (.iconst 1, 1) := by decide +kernel
theorem dX8_child_30 : decode cX8_child 30 = .ok (.putfield 73, 3) := by decide +kernel
theorem dX8_child_33 : decode cX8_child 33 = .ok (.aload_n 0, 1) := by decide +kernel
theorem dX8_child_34 : decode cX8_child 34 = .ok (.getfield 73, 3) := by decide +kernel
theorem dX8_child_37 : decode cX8_child 37 = .ok (.ifCond .le 5, 3) := by decide +kernel
theorem dX8_child_40 : decode cX8_child 40 = .ok (.iconst 0, 1) := by decide +kernel
theorem dX8_child_41 : decode cX8_child 41 = .ok (.ireturn, 1) := by decide +kernel
theorem dX8_child_42 : decode cX8_child 42 = .ok (.iconst (-1), 1) := by decide +kernel
theorem dX8_child_43 : decode cX8_child 43 = .ok (.istore_n 3, 1) := by decide +kernel
theorem dX8_child_44 : decode cX8_child 44 = .ok (.iload_n 2, 1) := by decide +kernel
theorem dX8_child_45 : decode cX8_child 45 = .ok (.istore 4, 2) := by decide +kernel
theorem dX8_child_47 : decode cX8_child 47 = .ok (.iconst 0, 1) := by decide +kernel
theorem dX8_child_48 : decode cX8_child 48 = .ok (.istore 5, 2) := by decide +kernel
theorem dX8_child_50 : decode cX8_child 50 = .ok (.iload 5, 2) := by decide +kernel
theorem dX8_child_52 : decode cX8_child 52 = .ok (.aload_n 0, 1) := by decide +kernel
theorem dX8_child_53 : decode cX8_child 53 = .ok (.getfield 116, 3) := by decide +kernel
theorem dX8_child_56 : decode cX8_child 56 = .ok (.if_icmp .ge 35, 3) := by decide +kernel
theorem dX8_child_59 : decode cX8_child 59 = .ok (.aload_n 0, 1) := by decide +kernel
theorem dX8_child_60 : decode cX8_child 60 = .ok (.getfield 45, 3) := by decide +kernel
theorem dX8_child_63 : decode cX8_child 63 = .ok (.iload 5, 2) := by decide +kernel
theorem dX8_child_65 : decode cX8_child 65 = .ok (.iaload, 1) := by decide +kernel
theorem dX8_child_66 : decode cX8_child 66 = .ok (.iload_n 1, 1) := by decide +kernel
theorem dX8_child_67 : decode cX8_child 67 = .ok (.if_icmp .ne 18, 3) := by decide +kernel
theorem dX8_child_70 : decode cX8_child 70 = .ok (.iload 4, 2) := by decide +kernel
theorem dX8_child_72 : decode cX8_child 72 = .ok (.ifCond .ne 8, 3) := by decide +kernel
theorem dX8_child_75 : decode cX8_child 75 = .ok (.iload 5, 2) := by decide +kernel
theorem dX8_child_77 : decode cX8_child 77 = .ok (.goto 4, 3) := by decide +kernel
theorem dX8_child_80 : decode cX8_child 80 = .ok (.iload_n 3, 1) := by decide +kernel
theorem dX8_child_81 : decode cX8_child 81 = .ok (.istore_n 3, 1) := by decide +kernel
theorem dX8_child_82 : decode cX8_child 82 = .ok (.iinc 4 (-1), 3) := by decide +kernel
theorem dX8_child_85 : decode cX8_child 85 = .ok (.iinc 5 1, 3) := by decide +kernel
theorem dX8_child_88 : decode cX8_child 88 = .ok (.goto (-38), 3) := by decide +kernel
theorem dX8_child_91 : decode cX8_child 91 = .ok (.iload_n 3, 1) := by decide +kernel
theorem dX8_child_92 : decode cX8_child 92 = .ok (.ireturn, 1) := by decide +kernel
theorem dX8_leaf_0 : decode cX8_leaf 0 = .ok (.aload_n 0, 1) := by decide +kernel
theorem dX8_leaf_1 : decode cX8_leaf 1 = .ok (.invokevirtual 113, 3) := by decide +kernel
theorem dX8_leaf_4 : decode cX8_leaf 4 = .ok (.aload_n 0, 1) := by decide +kernel
theorem dX8_leaf_5 : decode cX8_leaf 5 = .ok (.iload_n 1, 1) := by decide +kernel
theorem dX8_leaf_6 : decode cX8_leaf 6 = .ok (.iconst 0, 1) := by decide +kernel
theorem dX8_leaf_7 : decode cX8_leaf 7 = .ok (.aload_n 0, 1) := by decide +kernel
theorem dX8_leaf_8 : decode cX8_leaf 8 = .ok (.getfield 190, 3) := by decide +kernel
theorem dX8_leaf_11 : decode cX8_leaf 11 = .ok (.iconst 1, 1) := by decide +kernel
theorem dX8_leaf_12 : decode cX8_leaf 12 = .ok (.isub, 1) := by decide +kernel
theorem dX8_leaf_13 : decode cX8_leaf 13 = .ok (.invokestatic 80, 3) := by decide +kernel
theorem dX8_leaf_16 : decode cX8_leaf 16 = .ok (.ifCond .eq 7, 3) := by decide +kernel
theorem dX8_leaf_19 : decode cX8_leaf 19 = .ok (.iconst 0, 1) := by decide +kernel
theorem dX8_leaf_20 : decode cX8_leaf 20 = .ok (.goto 4, 3) := by decide +kernel
theorem dX8_leaf_23 : decode cX8_leaf 23 = .ok (.iconst 1, 1) := by decide +kernel
theorem dX8_leaf_24 : decode cX8_leaf 24 = .ok (.putfield 73, 3) := by decide +kernel
theorem dX8_leaf_27 : decode cX8_leaf 27 = .ok (.aload_n 0, 1) := by decide +kernel
theorem dX8_leaf_28 : decode cX8_leaf 28 = .ok (.getfield 73, 3) := by decide +kernel
theorem dX8_leaf_31 : decode cX8_leaf 31 = .ok (.ifCond .le 7, 3) := by decide +kernel
theorem dX8_leaf_34 : decode cX8_leaf 34 = .ok (.iconst 0, 1) := by decide +kernel
theorem dX8_leaf_35 : decode cX8_leaf 35 = .ok (.goto 9, 3) := by decide +kernel
theorem dX8_leaf_38 : decode cX8_leaf 38 = .ok (.aload_n 0, 1) := by decide +kernel
theorem dX8_leaf_39 : decode cX8_leaf 39 = .ok (.getfield 57, 3) := by decide +kernel
theorem dX8_leaf_42 : decode cX8_leaf 42 = .ok (.iload_n 1, 1) := by decide +kernel
theorem dX8_leaf_43 : decode cX8_leaf 43 = .ok (.iaload, 1) := by decide +kernel
theorem dX8_leaf_44 : decode cX8_leaf 44 = .ok (.ireturn, 1) := by decide +kernel
theorem dX8_prominence_0 : decode cX8_prominence 0 = .ok (.aload_n 0, 1) := by decide +kernel
theorem dX8_prominence_1 : decode cX8_prominence 1 = .ok (.aload_n 0, 1) := by decide +kernel
theorem dX8_prominence_2 : decode cX8_prominence 2 = .ok (.iload_n 1, 1) := by decide +kernel
theorem dX8_prominence_3 : decode cX8_prominence 3 = .ok (.invokevirtual 247, 3) := by decide +kernel
theorem dX8_prominence_6 : decode cX8_prominence 6 = .ok (.ifCond .ne 7, 3) := by decide +kernel
theorem dX8_prominence_9 : decode cX8_prominence 9 = .ok (.iconst 1, 1) := by decide +kernel
theorem dX8_prominence_10 : decode cX8_prominence 10 = .ok (.goto 16, 3) := by decide +kernel
theorem dX8_prominence_13 : decode cX8_prominence 13 = .ok (.aload_n 0, 1) := by decide +kernel
theorem dX8_prominence_14 : decode cX8_prominence 14 = .ok (.iload_n 1, 1) := by decide +kernel
theorem dX8_prominence_15 : decode cX8_prominence 15 = .ok (.invokevirtual 184, 3) := by decide +kernel
theorem dX8_prominence_18 : decode cX8_prominence 18 = .ok (.ifCond .eq 7, 3) := by decide +kernel
theorem dX8_prominence_21 : decode cX8_prominence 21 = .ok (.iconst 0, 1) := by decide +kernel
theorem dX8_prominence_22 : decode cX8_prominence 22 = .ok (.goto 4, 3) := by decide +kernel
theorem dX8_prominence_25 : decode cX8_prominence 25 = .ok (.iconst 2, 1) := by decide +kernel
theorem dX8_prominence_26 : decode cX8_prominence 26 = .ok (.putfield 73, 3) := by decide +kernel
theorem dX8_prominence_29 : decode cX8_prominence 29 = .ok (.aload_n 0, 1) := by decide +kernel
theorem dX8_prominence_30 : decode cX8_prominence 30 = .ok (.getfield 73, 3) := by decide +kernel
theorem dX8_prominence_33 : decode cX8_prominence 33 = .ok (.ifCond .le 7, 3) := by decide +kernel
theorem dX8_prominence_36 : decode cX8_prominence 36 = .ok (.iconst 0, 1) := by decide +kernel
theorem dX8_prominence_37 : decode cX8_prominence 37 = .ok (.goto 9, 3) := by decide +kernel
theorem dX8_prominence_40 : decode cX8_prominence 40 = .ok (.aload_n 0, 1) := by decide +kernel
theorem dX8_prominence_41 : decode cX8_prominence 41 = .ok (.getfield 54, 3) := by decide +kernel
theorem dX8_prominence_44 : decode cX8_prominence 44 = .ok (.iload_n 1, 1) := by decide +kernel
theorem dX8_prominence_45 : decode cX8_prominence 45 = .ok (.iaload, 1) := by decide +kernel
theorem dX8_prominence_46 : decode cX8_prominence 46 = .ok (.ireturn, 1) := by decide +kernel
theorem dX8_componentOf_0 : decode cX8_componentOf 0 = .ok (.iconst (-1), 1) := by decide +kernel
theorem dX8_componentOf_1 : decode cX8_componentOf 1 = .ok (.istore_n 3, 1) := by decide +kernel
theorem dX8_componentOf_2 : decode cX8_componentOf 2 = .ok (.aload_n 0, 1) := by decide +kernel
theorem dX8_componentOf_3 : decode cX8_componentOf 3 = .ok (.getfield 116, 3) := by decide +kernel
theorem dX8_componentOf_6 : decode cX8_componentOf 6 = .ok (.iconst 1, 1) := by decide +kernel
theorem dX8_componentOf_7 : decode cX8_componentOf 7 = .ok (.isub, 1) := by decide +kernel
theorem dX8_componentOf_8 : decode cX8_componentOf 8 = .ok (.istore 4, 2) := by decide +kernel
theorem dX8_componentOf_10 : decode cX8_componentOf 10 = .ok (.iload 4, 2) := by decide +kernel
theorem dX8_componentOf_12 : decode cX8_componentOf 12 = .ok (.ifCond .lt 41, 3) := by decide +kernel
theorem dX8_componentOf_15 : decode cX8_componentOf 15 = .ok (.aload_n 0, 1) := by decide +kernel
theorem dX8_componentOf_16 : decode cX8_componentOf 16 = .ok (.getfield 42, 3) := by decide +kernel
theorem dX8_componentOf_19 : decode cX8_componentOf 19 = .ok (.iload 4, 2) := by decide +kernel
theorem dX8_componentOf_21 : decode cX8_componentOf 21 = .ok (.iaload, 1) := by decide +kernel
theorem dX8_componentOf_22 : decode cX8_componentOf 22 = .ok (.iload_n 2, 1) := by decide +kernel
theorem dX8_componentOf_23 : decode cX8_componentOf 23 = .ok (.if_icmp .lt 22, 3) := by decide +kernel
theorem dX8_componentOf_26 : decode cX8_componentOf 26 = .ok (.aload_n 0, 1) := by decide +kernel
theorem dX8_componentOf_27 : decode cX8_componentOf 27 = .ok (.getfield 38, 3) := by decide +kernel
theorem dX8_componentOf_30 : decode cX8_componentOf 30 = .ok (.iload 4, 2) := by decide +kernel
theorem dX8_componentOf_32 : decode cX8_componentOf 32 = .ok (.laload, 1) := by decide +kernel
theorem dX8_componentOf_33 : decode cX8_componentOf 33 = .ok (.iload_n 1, 1) := by decide +kernel
theorem dX8_componentOf_34 : decode cX8_componentOf 34 = .ok (.invokestatic 151, 3) := by decide +kernel
theorem dX8_componentOf_37 : decode cX8_componentOf 37 = .ok (.ifCond .eq 8, 3) := by decide +kernel
theorem dX8_componentOf_40 : decode cX8_componentOf 40 = .ok (.iload 4, 2) := by decide +kernel
theorem dX8_componentOf_42 : decode cX8_componentOf 42 = .ok (.goto 4, 3) := by decide +kernel
theorem dX8_componentOf_45 : decode cX8_componentOf 45 = .ok (.iload_n 3, 1) := by decide +kernel
theorem dX8_componentOf_46 : decode cX8_componentOf 46 = .ok (.istore_n 3, 1) := by decide +kernel
theorem dX8_componentOf_47 : decode cX8_componentOf 47 = .ok (.iinc 4 (-1), 3) := by decide +kernel
theorem dX8_componentOf_50 : decode cX8_componentOf 50 = .ok (.goto (-40), 3) := by decide +kernel
theorem dX8_componentOf_53 : decode cX8_componentOf 53 = .ok (.iload_n 3, 1) := by decide +kernel
theorem dX8_componentOf_54 : decode cX8_componentOf 54 = .ok (.ireturn, 1) := by decide +kernel
theorem dX8_component_0 : decode cX8_component 0 = .ok (.aload_n 0, 1) := by decide +kernel
theorem dX8_component_1 : decode cX8_component 1 = .ok (.invokevirtual 113, 3) := by decide +kernel
theorem dX8_component_4 : decode cX8_component 4 = .ok (.aload_n 0, 1) := by decide +kernel
theorem dX8_component_5 : decode cX8_component 5 = .ok (.aload_n 0, 1) := by decide +kernel
theorem dX8_component_6 : decode cX8_component 6 = .ok (.iload_n 1, 1) := by decide +kernel
theorem dX8_component_7 : decode cX8_component 7 = .ok (.invokevirtual 106, 3) := by decide +kernel
theorem dX8_component_10 : decode cX8_component 10 = .ok (.ifCond .ne 7, 3) := by decide +kernel
theorem dX8_component_13 : decode cX8_component 13 = .ok (.iconst 1, 1) := by decide +kernel
theorem dX8_component_14 : decode cX8_component 14 = .ok (.goto 18, 3) := by decide +kernel
theorem dX8_component_17 : decode cX8_component 17 = .ok (.iload_n 2, 1) := by decide +kernel
theorem dX8_component_18 : decode cX8_component 18 = .ok (.iconst 0, 1) := by decide +kernel
theorem dX8_component_19 : decode cX8_component 19 = .ok (.bipush 15, 2) := by decide +kernel
theorem dX8_component_21 : decode cX8_component 21 = .ok (.invokestatic 80, 3) := by decide +kernel
theorem dX8_component_24 : decode cX8_component 24 = .ok (.ifCond .eq 7, 3) := by decide +kernel
theorem dX8_component_27 : decode cX8_component 27 = .ok (.iconst 0, 1) := by decide +kernel
theorem dX8_component_28 : decode cX8_component 28 = .ok (.goto 4, 3) := by decide +kernel
theorem dX8_component_31 : decode cX8_component 31 = .ok (.iconst 2, 1) := by decide +kernel
theorem dX8_component_32 : decode cX8_component 32 = .ok (.putfield 73, 3) := by decide +kernel
theorem dX8_component_35 : decode cX8_component 35 = .ok (.aload_n 0, 1) := by decide +kernel
theorem dX8_component_36 : decode cX8_component 36 = .ok (.getfield 73, 3) := by decide +kernel
theorem dX8_component_39 : decode cX8_component 39 = .ok (.ifCond .le 7, 3) := by decide +kernel
theorem dX8_component_42 : decode cX8_component 42 = .ok (.iconst 0, 1) := by decide +kernel
theorem dX8_component_43 : decode cX8_component 43 = .ok (.goto 9, 3) := by decide +kernel
theorem dX8_component_46 : decode cX8_component 46 = .ok (.aload_n 0, 1) := by decide +kernel
theorem dX8_component_47 : decode cX8_component 47 = .ok (.iload_n 1, 1) := by decide +kernel
theorem dX8_component_48 : decode cX8_component 48 = .ok (.iload_n 2, 1) := by decide +kernel
theorem dX8_component_49 : decode cX8_component 49 = .ok (.invokevirtual 253, 3) := by decide +kernel
theorem dX8_component_52 : decode cX8_component 52 = .ok (.ireturn, 1) := by decide +kernel
theorem dX8_meet_0 : decode cX8_meet 0 = .ok (.aload_n 0, 1) := by decide +kernel
theorem dX8_meet_1 : decode cX8_meet 1 = .ok (.invokevirtual 113, 3) := by decide +kernel
theorem dX8_meet_4 : decode cX8_meet 4 = .ok (.aload_n 0, 1) := by decide +kernel
theorem dX8_meet_5 : decode cX8_meet 5 = .ok (.aload_n 0, 1) := by decide +kernel
theorem dX8_meet_6 : decode cX8_meet 6 = .ok (.iload_n 1, 1) := by decide +kernel
theorem dX8_meet_7 : decode cX8_meet 7 = .ok (.invokevirtual 106, 3) := by decide +kernel
theorem dX8_meet_10 : decode cX8_meet 10 = .ok (.ifCond .eq 15, 3) := by decide +kernel
theorem dX8_meet_13 : decode cX8_meet 13 = .ok (.aload_n 0, 1) := by decide +kernel
theorem dX8_meet_14 : decode cX8_meet 14 = .ok (.iload_n 2, 1) := by decide +kernel
theorem dX8_meet_15 : decode cX8_meet 15 = .ok (.invokevirtual 106, 3) := by decide +kernel
theorem dX8_meet_18 : decode cX8_meet 18 = .ok (.ifCond .eq 7, 3) := by decide +kernel
theorem dX8_meet_21 : decode cX8_meet 21 = .ok (.iconst 0, 1) := by decide +kernel
theorem dX8_meet_22 : decode cX8_meet 22 = .ok (.goto 4, 3) := by decide +kernel
theorem dX8_meet_25 : decode cX8_meet 25 = .ok (.iconst 1, 1) := by decide +kernel
theorem dX8_meet_26 : decode cX8_meet 26 = .ok (.putfield 73, 3) := by decide +kernel
theorem dX8_meet_29 : decode cX8_meet 29 = .ok (.iconst 0, 1) := by decide +kernel
theorem dX8_meet_30 : decode cX8_meet 30 = .ok (.istore_n 3, 1) := by decide +kernel
theorem dX8_meet_31 : decode cX8_meet 31 = .ok (.iconst 0, 1) := by decide +kernel
theorem dX8_meet_32 : decode cX8_meet 32 = .ok (.istore 4, 2) := by decide +kernel
theorem dX8_meet_34 : decode cX8_meet 34 = .ok (.iload 4, 2) := by decide +kernel
theorem dX8_meet_36 : decode cX8_meet 36 = .ok (.aload_n 0, 1) := by decide +kernel
theorem dX8_meet_37 : decode cX8_meet 37 = .ok (.getfield 116, 3) := by decide +kernel
theorem dX8_meet_40 : decode cX8_meet 40 = .ok (.if_icmp .ge 51, 3) := by decide +kernel
theorem dX8_meet_43 : decode cX8_meet 43 = .ok (.aload_n 0, 1) := by decide +kernel
theorem dX8_meet_44 : decode cX8_meet 44 = .ok (.getfield 73, 3) := by decide +kernel
theorem dX8_meet_47 : decode cX8_meet 47 = .ok (.ifCond .ne 44, 3) := by decide +kernel
theorem dX8_meet_50 : decode cX8_meet 50 = .ok (.aload_n 0, 1) := by decide +kernel
theorem dX8_meet_51 : decode cX8_meet 51 = .ok (.getfield 38, 3) := by decide +kernel
theorem dX8_meet_54 : decode cX8_meet 54 = .ok (.iload 4, 2) := by decide +kernel
theorem dX8_meet_56 : decode cX8_meet 56 = .ok (.laload, 1) := by decide +kernel
theorem dX8_meet_57 : decode cX8_meet 57 = .ok (.iload_n 1, 1) := by decide +kernel
theorem dX8_meet_58 : decode cX8_meet 58 = .ok (.invokestatic 151, 3) := by decide +kernel
theorem dX8_meet_61 : decode cX8_meet 61 = .ok (.ifCond .eq 22, 3) := by decide +kernel
theorem dX8_meet_64 : decode cX8_meet 64 = .ok (.aload_n 0, 1) := by decide +kernel
theorem dX8_meet_65 : decode cX8_meet 65 = .ok (.getfield 38, 3) := by decide +kernel
theorem dX8_meet_68 : decode cX8_meet 68 = .ok (.iload 4, 2) := by decide +kernel
theorem dX8_meet_70 : decode cX8_meet 70 = .ok (.laload, 1) := by decide +kernel
theorem dX8_meet_71 : decode cX8_meet 71 = .ok (.iload_n 2, 1) := by decide +kernel
theorem dX8_meet_72 : decode cX8_meet 72 = .ok (.invokestatic 151, 3) := by decide +kernel
theorem dX8_meet_75 : decode cX8_meet 75 = .ok (.ifCond .eq 8, 3) := by decide +kernel
theorem dX8_meet_78 : decode cX8_meet 78 = .ok (.iload 4, 2) := by decide +kernel
theorem dX8_meet_80 : decode cX8_meet 80 = .ok (.goto 4, 3) := by decide +kernel
theorem dX8_meet_83 : decode cX8_meet 83 = .ok (.iload_n 3, 1) := by decide +kernel
theorem dX8_meet_84 : decode cX8_meet 84 = .ok (.istore_n 3, 1) := by decide +kernel
theorem dX8_meet_85 : decode cX8_meet 85 = .ok (.iinc 4 1, 3) := by decide +kernel
theorem dX8_meet_88 : decode cX8_meet 88 = .ok (.goto (-54), 3) := by decide +kernel
theorem dX8_meet_91 : decode cX8_meet 91 = .ok (.iload_n 3, 1) := by decide +kernel
theorem dX8_meet_92 : decode cX8_meet 92 = .ok (.ireturn, 1) := by decide +kernel
theorem dX8_distance_0 : decode cX8_distance 0 = .ok (.aload_n 0, 1) := by decide +kernel
theorem dX8_distance_1 : decode cX8_distance 1 = .ok (.aload_n 0, 1) := by decide +kernel
theorem dX8_distance_2 : decode cX8_distance 2 = .ok (.iload_n 1, 1) := by decide +kernel
theorem dX8_distance_3 : decode cX8_distance 3 = .ok (.invokevirtual 247, 3) := by decide +kernel
theorem dX8_distance_6 : decode cX8_distance 6 = .ok (.ifCond .eq 15, 3) := by decide +kernel
theorem dX8_distance_9 : decode cX8_distance 9 = .ok (.aload_n 0, 1) := by decide +kernel
theorem dX8_distance_10 : decode cX8_distance 10 = .ok (.iload_n 2, 1) := by decide +kernel
theorem dX8_distance_11 : decode cX8_distance 11 = .ok (.invokevirtual 247, 3) := by decide +kernel
theorem dX8_distance_14 : decode cX8_distance 14 = .ok (.ifCond .eq 7, 3) := by decide +kernel
theorem dX8_distance_17 : decode cX8_distance 17 = .ok (.iconst 0, 1) := by decide +kernel
theorem dX8_distance_18 : decode cX8_distance 18 = .ok (.goto 4, 3) := by decide +kernel
theorem dX8_distance_21 : decode cX8_distance 21 = .ok (.iconst 1, 1) := by decide +kernel
theorem dX8_distance_22 : decode cX8_distance 22 = .ok (.putfield 73, 3) := by decide +kernel
theorem dX8_distance_25 : decode cX8_distance 25 = .ok (.aload_n 0, 1) := by decide +kernel
theorem dX8_distance_26 : decode cX8_distance 26 = .ok (.getfield 73, 3) := by decide +kernel
theorem dX8_distance_29 : decode cX8_distance 29 = .ok (.ifCond .le 5, 3) := by decide +kernel
theorem dX8_distance_32 : decode cX8_distance 32 = .ok (.iconst 0, 1) := by decide +kernel
theorem dX8_distance_33 : decode cX8_distance 33 = .ok (.ireturn, 1) := by decide +kernel
theorem dX8_distance_34 : decode cX8_distance 34 = .ok (.iconst 0, 1) := by decide +kernel
theorem dX8_distance_35 : decode cX8_distance 35 = .ok (.istore_n 3, 1) := by decide +kernel
theorem dX8_distance_36 : decode cX8_distance 36 = .ok (.iconst 0, 1) := by decide +kernel
theorem dX8_distance_37 : decode cX8_distance 37 = .ok (.istore 4, 2) := by decide +kernel
theorem dX8_distance_39 : decode cX8_distance 39 = .ok (.iload 4, 2) := by decide +kernel
theorem dX8_distance_41 : decode cX8_distance 41 = .ok (.aload_n 0, 1) := by decide +kernel
theorem dX8_distance_42 : decode cX8_distance 42 = .ok (.getfield 116, 3) := by decide +kernel
theorem dX8_distance_45 : decode cX8_distance 45 = .ok (.if_icmp .ge 61, 3) := by decide +kernel
theorem dX8_distance_48 : decode cX8_distance 48 = .ok (.iload 4, 2) := by decide +kernel
theorem dX8_distance_50 : decode cX8_distance 50 = .ok (.iload_n 1, 1) := by decide +kernel
theorem dX8_distance_51 : decode cX8_distance 51 = .ok (.if_icmp .eq 13, 3) := by decide +kernel
theorem dX8_distance_54 : decode cX8_distance 54 = .ok (.aload_n 0, 1) := by decide +kernel
theorem dX8_distance_55 : decode cX8_distance 55 = .ok (.iload_n 1, 1) := by decide +kernel
theorem dX8_distance_56 : decode cX8_distance 56 = .ok (.iload 4, 2) := by decide +kernel
theorem dX8_distance_58 : decode cX8_distance 58 = .ok (.invokevirtual 170, 3) := by decide +kernel
theorem dX8_distance_61 : decode cX8_distance 61 = .ok (.ifCond .eq 23, 3) := by decide +kernel
theorem dX8_distance_64 : decode cX8_distance 64 = .ok (.iload 4, 2) := by decide +kernel
theorem dX8_distance_66 : decode cX8_distance 66 = .ok (.iload_n 2, 1) := by decide +kernel
theorem dX8_distance_67 : decode cX8_distance 67 = .ok (.if_icmp .eq 13, 3) := by decide +kernel
theorem dX8_distance_70 : decode cX8_distance 70 = .ok (.aload_n 0, 1) := by decide +kernel
theorem dX8_distance_71 : decode cX8_distance 71 = .ok (.iload_n 2, 1) := by decide +kernel
theorem dX8_distance_72 : decode cX8_distance 72 = .ok (.iload 4, 2) := by decide +kernel
theorem dX8_distance_74 : decode cX8_distance 74 = .ok (.invokevirtual 170, 3) := by decide +kernel
theorem dX8_distance_77 : decode cX8_distance 77 = .ok (.ifCond .eq 7, 3) := by decide +kernel
theorem dX8_distance_80 : decode cX8_distance 80 = .ok (.iconst 1, 1) := by decide +kernel
theorem dX8_distance_81 : decode cX8_distance 81 = .ok (.goto 4, 3) := by decide +kernel
theorem dX8_distance_84 : decode cX8_distance 84 = .ok (.iconst 0, 1) := by decide +kernel
theorem dX8_distance_85 : decode cX8_distance 85 = .ok (.istore 5, 2) := by decide +kernel
theorem dX8_distance_87 : decode cX8_distance 87 = .ok (.iload_n 3, 1) := by decide +kernel
theorem dX8_distance_88 : decode cX8_distance 88 = .ok (.iload 5, 2) := by decide +kernel
theorem dX8_distance_90 : decode cX8_distance 90 = .ok (.ifCond .eq 7, 3) := by decide +kernel
theorem dX8_distance_93 : decode cX8_distance 93 = .ok (.iconst 1, 1) := by decide +kernel
theorem dX8_distance_94 : decode cX8_distance 94 = .ok (.goto 4, 3) := by decide +kernel
theorem dX8_distance_97 : decode cX8_distance 97 = .ok (.iconst 0, 1) := by decide +kernel
theorem dX8_distance_98 : decode cX8_distance 98 = .ok (.iadd, 1) := by decide +kernel
theorem dX8_distance_99 : decode cX8_distance 99 = .ok (.istore_n 3, 1) := by decide +kernel
theorem dX8_distance_100 : decode cX8_distance 100 = .ok (.iinc 4 1, 3) := by decide +kernel
theorem dX8_distance_103 : decode cX8_distance 103 = .ok (.goto (-64), 3) := by decide +kernel
theorem dX8_distance_106 : decode cX8_distance 106 = .ok (.aload_n 0, 1) := by decide +kernel
theorem dX8_distance_107 : decode cX8_distance 107 = .ok (.iload_n 1, 1) := by decide +kernel
theorem dX8_distance_108 : decode cX8_distance 108 = .ok (.invokevirtual 196, 3) := by decide +kernel
theorem dX8_distance_111 : decode cX8_distance 111 = .ok (.aload_n 0, 1) := by decide +kernel
theorem dX8_distance_112 : decode cX8_distance 112 = .ok (.iload_n 2, 1) := by decide +kernel
theorem dX8_distance_113 : decode cX8_distance 113 = .ok (.invokevirtual 196, 3) := by decide +kernel
theorem dX8_distance_116 : decode cX8_distance 116 = .ok (.iadd, 1) := by decide +kernel
theorem dX8_distance_117 : decode cX8_distance 117 = .ok (.iconst 2, 1) := by decide +kernel
theorem dX8_distance_118 : decode cX8_distance 118 = .ok (.iload_n 3, 1) := by decide +kernel
theorem dX8_distance_119 : decode cX8_distance 119 = .ok (.imul, 1) := by decide +kernel
theorem dX8_distance_120 : decode cX8_distance 120 = .ok (.isub, 1) := by decide +kernel
theorem dX8_distance_121 : decode cX8_distance 121 = .ok (.ireturn, 1) := by decide +kernel
theorem dX8_isFilter_0 : decode cX8_isFilter 0 = .ok (.iload_n 0, 1) := by decide +kernel
theorem dX8_isFilter_1 : decode cX8_isFilter 1 = .ok (.iconst 1, 1) := by decide +kernel
theorem dX8_isFilter_2 : decode cX8_isFilter 2 = .ok (.if_icmp .eq 13, 3) := by decide +kernel
theorem dX8_isFilter_5 : decode cX8_isFilter 5 = .ok (.iload_n 0, 1) := by decide +kernel
theorem dX8_isFilter_6 : decode cX8_isFilter 6 = .ok (.iconst 5, 1) := by decide +kernel
theorem dX8_isFilter_7 : decode cX8_isFilter 7 = .ok (.bipush 11, 2) := by decide +kernel
theorem dX8_isFilter_9 : decode cX8_isFilter 9 = .ok (.invokestatic 80, 3) := by decide +kernel
theorem dX8_isFilter_12 : decode cX8_isFilter 12 = .ok (.ifCond .eq 27, 3) := by decide +kernel
theorem dX8_isFilter_15 : decode cX8_isFilter 15 = .ok (.iload_n 1, 1) := by decide +kernel
theorem dX8_isFilter_16 : decode cX8_isFilter 16 = .ok (.iconst 0, 1) := by decide +kernel
theorem dX8_isFilter_17 : decode cX8_isFilter 17 = .ok (.sipush 999, 3) := by decide +kernel
theorem dX8_isFilter_20 : decode cX8_isFilter 20 = .ok (.invokestatic 80, 3) := by decide +kernel
theorem dX8_isFilter_23 : decode cX8_isFilter 23 = .ok (.ifCond .eq 16, 3) := by decide +kernel
theorem dX8_isFilter_26 : decode cX8_isFilter 26 = .ok (.iload_n 2, 1) := by decide +kernel
theorem dX8_isFilter_27 : decode cX8_isFilter 27 = .ok (.iconst 0, 1) := by decide +kernel
theorem dX8_isFilter_28 : decode cX8_isFilter 28 = .ok (.iconst 3, 1) := by decide +kernel
theorem dX8_isFilter_29 : decode cX8_isFilter 29 = .ok (.invokestatic 80, 3) := by decide +kernel
theorem dX8_isFilter_32 : decode cX8_isFilter 32 = .ok (.ifCond .eq 7, 3) := by decide +kernel
theorem dX8_isFilter_35 : decode cX8_isFilter 35 = .ok (.iconst 1, 1) := by decide +kernel
theorem dX8_isFilter_36 : decode cX8_isFilter 36 = .ok (.goto 4, 3) := by decide +kernel
theorem dX8_isFilter_39 : decode cX8_isFilter 39 = .ok (.iconst 0, 1) := by decide +kernel
theorem dX8_isFilter_40 : decode cX8_isFilter 40 = .ok (.ireturn, 1) := by decide +kernel
theorem dX8_layValues_0 : decode cX8_layValues 0 = .ok (.aload_n 0, 1) := by decide +kernel
theorem dX8_layValues_1 : decode cX8_layValues 1 = .ok (.invokevirtual 113, 3) := by decide +kernel
theorem dX8_layValues_4 : decode cX8_layValues 4 = .ok (.iconst 0, 1) := by decide +kernel
theorem dX8_layValues_5 : decode cX8_layValues 5 = .ok (.istore_n 2, 1) := by decide +kernel
theorem dX8_layValues_6 : decode cX8_layValues 6 = .ok (.iload_n 2, 1) := by decide +kernel
theorem dX8_layValues_7 : decode cX8_layValues 7 = .ok (.aload_n 0, 1) := by decide +kernel
theorem dX8_layValues_8 : decode cX8_layValues 8 = .ok (.getfield 116, 3) := by decide +kernel
theorem dX8_layValues_11 : decode cX8_layValues 11 = .ok (.if_icmp .ge 21, 3) := by decide +kernel
theorem dX8_layValues_14 : decode cX8_layValues 14 = .ok (.aload_n 0, 1) := by decide +kernel
theorem dX8_layValues_15 : decode cX8_layValues 15 = .ok (.getfield 60, 3) := by decide +kernel
theorem dX8_layValues_18 : decode cX8_layValues 18 = .ok (.iload_n 2, 1) := by decide +kernel
theorem dX8_layValues_19 : decode cX8_layValues 19 = .ok (.aload_n 0, 1) := by decide +kernel
theorem dX8_layValues_20 : decode cX8_layValues 20 = .ok (.iload_n 2, 1) := by decide +kernel
theorem dX8_layValues_21 : decode cX8_layValues 21 = .ok (.iload_n 1, 1) := by decide +kernel
theorem dX8_layValues_22 : decode cX8_layValues 22 = .ok (.invokevirtual 250, 3) := by decide +kernel
theorem dX8_layValues_25 : decode cX8_layValues 25 = .ok (.iastore, 1) := by decide +kernel
theorem dX8_layValues_26 : decode cX8_layValues 26 = .ok (.iinc 2 1, 3) := by decide +kernel
theorem dX8_layValues_29 : decode cX8_layValues 29 = .ok (.goto (-23), 3) := by decide +kernel
theorem dX8_layValues_32 : decode cX8_layValues 32 = .ok (.return_, 1) := by decide +kernel
theorem dX8_remainsBy_0 : decode cX8_remainsBy 0 = .ok (.aload_n 0, 1) := by decide +kernel
theorem dX8_remainsBy_1 : decode cX8_remainsBy 1 = .ok (.getfield 60, 3) := by decide +kernel
theorem dX8_remainsBy_4 : decode cX8_remainsBy 4 = .ok (.iload_n 1, 1) := by decide +kernel
theorem dX8_remainsBy_5 : decode cX8_remainsBy 5 = .ok (.iaload, 1) := by decide +kernel
theorem dX8_remainsBy_6 : decode cX8_remainsBy 6 = .ok (.iload_n 2, 1) := by decide +kernel
theorem dX8_remainsBy_7 : decode cX8_remainsBy 7 = .ok (.if_icmp .lt 7, 3) := by decide +kernel
theorem dX8_remainsBy_10 : decode cX8_remainsBy 10 = .ok (.iconst 1, 1) := by decide +kernel
theorem dX8_remainsBy_11 : decode cX8_remainsBy 11 = .ok (.goto 4, 3) := by decide +kernel
theorem dX8_remainsBy_14 : decode cX8_remainsBy 14 = .ok (.iconst 0, 1) := by decide +kernel
theorem dX8_remainsBy_15 : decode cX8_remainsBy 15 = .ok (.istore 4, 2) := by decide +kernel
theorem dX8_remainsBy_17 : decode cX8_remainsBy 17 = .ok (.iconst 1, 1) := by decide +kernel
theorem dX8_remainsBy_18 : decode cX8_remainsBy 18 = .ok (.istore 5, 2) := by decide +kernel
theorem dX8_remainsBy_20 : decode cX8_remainsBy 20 = .ok (.iload 5, 2) := by decide +kernel
theorem dX8_remainsBy_22 : decode cX8_remainsBy 22 = .ok (.aload_n 0, 1) := by decide +kernel
theorem dX8_remainsBy_23 : decode cX8_remainsBy 23 = .ok (.getfield 116, 3) := by decide +kernel
theorem dX8_remainsBy_26 : decode cX8_remainsBy 26 = .ok (.if_icmp .ge 95, 3) := by decide +kernel
theorem dX8_remainsBy_29 : decode cX8_remainsBy 29 = .ok (.iload_n 3, 1) := by decide +kernel
theorem dX8_remainsBy_30 : decode cX8_remainsBy 30 = .ok (.iconst 1, 1) := by decide +kernel
theorem dX8_remainsBy_31 : decode cX8_remainsBy 31 = .ok (.if_icmp .ne 37, 3) := by decide +kernel
theorem dX8_remainsBy_34 : decode cX8_remainsBy 34 = .ok (.aload_n 0, 1) := by decide +kernel
theorem dX8_remainsBy_35 : decode cX8_remainsBy 35 = .ok (.iload_n 1, 1) := by decide +kernel
theorem dX8_remainsBy_36 : decode cX8_remainsBy 36 = .ok (.iload 5, 2) := by decide +kernel
theorem dX8_remainsBy_38 : decode cX8_remainsBy 38 = .ok (.invokevirtual 170, 3) := by decide +kernel
theorem dX8_remainsBy_41 : decode cX8_remainsBy 41 = .ok (.ifCond .eq 27, 3) := by decide +kernel
theorem dX8_remainsBy_44 : decode cX8_remainsBy 44 = .ok (.iload 4, 2) := by decide +kernel
theorem dX8_remainsBy_46 : decode cX8_remainsBy 46 = .ok (.ifCond .eq 18, 3) := by decide +kernel
theorem dX8_remainsBy_49 : decode cX8_remainsBy 49 = .ok (.aload_n 0, 1) := by decide +kernel
theorem dX8_remainsBy_50 : decode cX8_remainsBy 50 = .ok (.getfield 60, 3) := by decide +kernel
theorem dX8_remainsBy_53 : decode cX8_remainsBy 53 = .ok (.iload 5, 2) := by decide +kernel
theorem dX8_remainsBy_55 : decode cX8_remainsBy 55 = .ok (.iaload, 1) := by decide +kernel
theorem dX8_remainsBy_56 : decode cX8_remainsBy 56 = .ok (.iload_n 2, 1) := by decide +kernel
theorem dX8_remainsBy_57 : decode cX8_remainsBy 57 = .ok (.if_icmp .lt 7, 3) := by decide +kernel
theorem dX8_remainsBy_60 : decode cX8_remainsBy 60 = .ok (.iconst 1, 1) := by decide +kernel
theorem dX8_remainsBy_61 : decode cX8_remainsBy 61 = .ok (.goto 9, 3) := by decide +kernel
theorem dX8_remainsBy_64 : decode cX8_remainsBy 64 = .ok (.iconst 0, 1) := by decide +kernel
theorem dX8_remainsBy_65 : decode cX8_remainsBy 65 = .ok (.goto 5, 3) := by decide +kernel
theorem dX8_remainsBy_68 : decode cX8_remainsBy 68 = .ok (.iload 4, 2) := by decide +kernel
theorem dX8_remainsBy_70 : decode cX8_remainsBy 70 = .ok (.istore 4, 2) := by decide +kernel
theorem dX8_remainsBy_72 : decode cX8_remainsBy 72 = .ok (.iload_n 3, 1) := by decide +kernel
theorem dX8_remainsBy_73 : decode cX8_remainsBy 73 = .ok (.iconst 2, 1) := by decide +kernel
theorem dX8_remainsBy_74 : decode cX8_remainsBy 74 = .ok (.if_icmp .ne 37, 3) := by decide +kernel
theorem dX8_remainsBy_77 : decode cX8_remainsBy 77 = .ok (.aload_n 0, 1) := by decide +kernel
theorem dX8_remainsBy_78 : decode cX8_remainsBy 78 = .ok (.iload 5, 2) := by decide +kernel
theorem dX8_remainsBy_80 : decode cX8_remainsBy 80 = .ok (.iload_n 1, 1) := by decide +kernel
theorem dX8_remainsBy_81 : decode cX8_remainsBy 81 = .ok (.invokevirtual 170, 3) := by decide +kernel
theorem dX8_remainsBy_84 : decode cX8_remainsBy 84 = .ok (.ifCond .eq 27, 3) := by decide +kernel
theorem dX8_remainsBy_87 : decode cX8_remainsBy 87 = .ok (.iload 4, 2) := by decide +kernel
theorem dX8_remainsBy_89 : decode cX8_remainsBy 89 = .ok (.ifCond .ne 14, 3) := by decide +kernel
theorem dX8_remainsBy_92 : decode cX8_remainsBy 92 = .ok (.aload_n 0, 1) := by decide +kernel
theorem dX8_remainsBy_93 : decode cX8_remainsBy 93 = .ok (.getfield 60, 3) := by decide +kernel
theorem dX8_remainsBy_96 : decode cX8_remainsBy 96 = .ok (.iload 5, 2) := by decide +kernel
theorem dX8_remainsBy_98 : decode cX8_remainsBy 98 = .ok (.iaload, 1) := by decide +kernel
theorem dX8_remainsBy_99 : decode cX8_remainsBy 99 = .ok (.iload_n 2, 1) := by decide +kernel
theorem dX8_remainsBy_100 : decode cX8_remainsBy 100 = .ok (.if_icmp .lt 7, 3) := by decide +kernel
theorem dX8_remainsBy_103 : decode cX8_remainsBy 103 = .ok (.iconst 1, 1) := by decide +kernel
theorem dX8_remainsBy_104 : decode cX8_remainsBy 104 = .ok (.goto 9, 3) := by decide +kernel
theorem dX8_remainsBy_107 : decode cX8_remainsBy 107 = .ok (.iconst 0, 1) := by decide +kernel
theorem dX8_remainsBy_108 : decode cX8_remainsBy 108 = .ok (.goto 5, 3) := by decide +kernel
theorem dX8_remainsBy_111 : decode cX8_remainsBy 111 = .ok (.iload 4, 2) := by decide +kernel
theorem dX8_remainsBy_113 : decode cX8_remainsBy 113 = .ok (.istore 4, 2) := by decide +kernel
theorem dX8_remainsBy_115 : decode cX8_remainsBy 115 = .ok (.iinc 5 1, 3) := by decide +kernel
theorem dX8_remainsBy_118 : decode cX8_remainsBy 118 = .ok (.goto (-98), 3) := by decide +kernel
theorem dX8_remainsBy_121 : decode cX8_remainsBy 121 = .ok (.iload 4, 2) := by decide +kernel
theorem dX8_remainsBy_123 : decode cX8_remainsBy 123 = .ok (.ifCond .ne 7, 3) := by decide +kernel
theorem dX8_remainsBy_126 : decode cX8_remainsBy 126 = .ok (.iload_n 1, 1) := by decide +kernel
theorem dX8_remainsBy_127 : decode cX8_remainsBy 127 = .ok (.ifCond .ne 7, 3) := by decide +kernel
theorem dX8_remainsBy_130 : decode cX8_remainsBy 130 = .ok (.iconst 1, 1) := by decide +kernel
theorem dX8_remainsBy_131 : decode cX8_remainsBy 131 = .ok (.goto 4, 3) := by decide +kernel
theorem dX8_remainsBy_134 : decode cX8_remainsBy 134 = .ok (.iconst 0, 1) := by decide +kernel
theorem dX8_remainsBy_135 : decode cX8_remainsBy 135 = .ok (.ireturn, 1) := by decide +kernel
theorem dX8_layRemains_0 : decode cX8_layRemains 0 = .ok (.iconst 0, 1) := by decide +kernel
theorem dX8_layRemains_1 : decode cX8_layRemains 1 = .ok (.istore_n 3, 1) := by decide +kernel
theorem dX8_layRemains_2 : decode cX8_layRemains 2 = .ok (.iload_n 3, 1) := by decide +kernel
theorem dX8_layRemains_3 : decode cX8_layRemains 3 = .ok (.aload_n 0, 1) := by decide +kernel
theorem dX8_layRemains_4 : decode cX8_layRemains 4 = .ok (.getfield 116, 3) := by decide +kernel
theorem dX8_layRemains_7 : decode cX8_layRemains 7 = .ok (.if_icmp .ge 22, 3) := by decide +kernel
theorem dX8_layRemains_10 : decode cX8_layRemains 10 = .ok (.aload_n 0, 1) := by decide +kernel
theorem dX8_layRemains_11 : decode cX8_layRemains 11 = .ok (.getfield 63, 3) := by decide +kernel
theorem dX8_layRemains_14 : decode cX8_layRemains 14 = .ok (.iload_n 3, 1) := by decide +kernel
theorem dX8_layRemains_15 : decode cX8_layRemains 15 = .ok (.aload_n 0, 1) := by decide +kernel
theorem dX8_layRemains_16 : decode cX8_layRemains 16 = .ok (.iload_n 3, 1) := by decide +kernel
theorem dX8_layRemains_17 : decode cX8_layRemains 17 = .ok (.iload_n 1, 1) := by decide +kernel
theorem dX8_layRemains_18 : decode cX8_layRemains 18 = .ok (.iload_n 2, 1) := by decide +kernel
theorem dX8_layRemains_19 : decode cX8_layRemains 19 = .ok (.invokevirtual 256, 3) := by decide +kernel
theorem dX8_layRemains_22 : decode cX8_layRemains 22 = .ok (.bastore, 1) := by decide +kernel
theorem dX8_layRemains_23 : decode cX8_layRemains 23 = .ok (.iinc 3 1, 3) := by decide +kernel
theorem dX8_layRemains_26 : decode cX8_layRemains 26 = .ok (.goto (-24), 3) := by decide +kernel
theorem dX8_layRemains_29 : decode cX8_layRemains 29 = .ok (.return_, 1) := by decide +kernel
theorem dX8_verdict_0 : decode cX8_verdict 0 = .ok (.aload_n 0, 1) := by decide +kernel
theorem dX8_verdict_1 : decode cX8_verdict 1 = .ok (.aload_n 0, 1) := by decide +kernel
theorem dX8_verdict_2 : decode cX8_verdict 2 = .ok (.iload_n 1, 1) := by decide +kernel
theorem dX8_verdict_3 : decode cX8_verdict 3 = .ok (.invokevirtual 247, 3) := by decide +kernel
theorem dX8_verdict_6 : decode cX8_verdict 6 = .ok (.ifCond .ne 7, 3) := by decide +kernel
theorem dX8_verdict_9 : decode cX8_verdict 9 = .ok (.iconst 1, 1) := by decide +kernel
theorem dX8_verdict_10 : decode cX8_verdict 10 = .ok (.goto 18, 3) := by decide +kernel
theorem dX8_verdict_13 : decode cX8_verdict 13 = .ok (.iload_n 2, 1) := by decide +kernel
theorem dX8_verdict_14 : decode cX8_verdict 14 = .ok (.iload_n 3, 1) := by decide +kernel
theorem dX8_verdict_15 : decode cX8_verdict 15 = .ok (.iload 4, 2) := by decide +kernel
theorem dX8_verdict_17 : decode cX8_verdict 17 = .ok (.invokestatic 259, 3) := by decide +kernel
theorem dX8_verdict_20 : decode cX8_verdict 20 = .ok (.ifCond .eq 7, 3) := by decide +kernel
theorem dX8_verdict_23 : decode cX8_verdict 23 = .ok (.iconst 0, 1) := by decide +kernel
theorem dX8_verdict_24 : decode cX8_verdict 24 = .ok (.goto 4, 3) := by decide +kernel
theorem dX8_verdict_27 : decode cX8_verdict 27 = .ok (.iconst 2, 1) := by decide +kernel
theorem dX8_verdict_28 : decode cX8_verdict 28 = .ok (.putfield 73, 3) := by decide +kernel
theorem dX8_verdict_31 : decode cX8_verdict 31 = .ok (.aload_n 0, 1) := by decide +kernel
theorem dX8_verdict_32 : decode cX8_verdict 32 = .ok (.getfield 73, 3) := by decide +kernel
theorem dX8_verdict_35 : decode cX8_verdict 35 = .ok (.ifCond .le 5, 3) := by decide +kernel
theorem dX8_verdict_38 : decode cX8_verdict 38 = .ok (.iconst 0, 1) := by decide +kernel
theorem dX8_verdict_39 : decode cX8_verdict 39 = .ok (.ireturn, 1) := by decide +kernel
theorem dX8_verdict_40 : decode cX8_verdict 40 = .ok (.aload_n 0, 1) := by decide +kernel
theorem dX8_verdict_41 : decode cX8_verdict 41 = .ok (.iload_n 2, 1) := by decide +kernel
theorem dX8_verdict_42 : decode cX8_verdict 42 = .ok (.invokevirtual 262, 3) := by decide +kernel
theorem dX8_verdict_45 : decode cX8_verdict 45 = .ok (.aload_n 0, 1) := by decide +kernel
theorem dX8_verdict_46 : decode cX8_verdict 46 = .ok (.iload_n 3, 1) := by decide +kernel
theorem dX8_verdict_47 : decode cX8_verdict 47 = .ok (.iload 4, 2) := by decide +kernel
theorem dX8_verdict_49 : decode cX8_verdict 49 = .ok (.invokevirtual 266, 3) := by decide +kernel
theorem dX8_verdict_52 : decode cX8_verdict 52 = .ok (.aload_n 0, 1) := by decide +kernel
theorem dX8_verdict_53 : decode cX8_verdict 53 = .ok (.getfield 60, 3) := by decide +kernel
theorem dX8_verdict_56 : decode cX8_verdict 56 = .ok (.iload_n 1, 1) := by decide +kernel
theorem dX8_verdict_57 : decode cX8_verdict 57 = .ok (.iaload, 1) := by decide +kernel
theorem dX8_verdict_58 : decode cX8_verdict 58 = .ok (.iload_n 3, 1) := by decide +kernel
theorem dX8_verdict_59 : decode cX8_verdict 59 = .ok (.if_icmp .lt 7, 3) := by decide +kernel
theorem dX8_verdict_62 : decode cX8_verdict 62 = .ok (.iconst 2, 1) := by decide +kernel
theorem dX8_verdict_63 : decode cX8_verdict 63 = .ok (.goto 4, 3) := by decide +kernel
theorem dX8_verdict_66 : decode cX8_verdict 66 = .ok (.iconst 0, 1) := by decide +kernel
theorem dX8_verdict_67 : decode cX8_verdict 67 = .ok (.aload_n 0, 1) := by decide +kernel
theorem dX8_verdict_68 : decode cX8_verdict 68 = .ok (.getfield 63, 3) := by decide +kernel
theorem dX8_verdict_71 : decode cX8_verdict 71 = .ok (.iload_n 1, 1) := by decide +kernel
theorem dX8_verdict_72 : decode cX8_verdict 72 = .ok (.baload, 1) := by decide +kernel
theorem dX8_verdict_73 : decode cX8_verdict 73 = .ok (.ifCond .eq 7, 3) := by decide +kernel
theorem dX8_verdict_76 : decode cX8_verdict 76 = .ok (.iconst 1, 1) := by decide +kernel
theorem dX8_verdict_77 : decode cX8_verdict 77 = .ok (.goto 4, 3) := by decide +kernel
theorem dX8_verdict_80 : decode cX8_verdict 80 = .ok (.iconst 0, 1) := by decide +kernel
theorem dX8_verdict_81 : decode cX8_verdict 81 = .ok (.iadd, 1) := by decide +kernel
theorem dX8_verdict_82 : decode cX8_verdict 82 = .ok (.ireturn, 1) := by decide +kernel
theorem dX8_newRank_0 : decode cX8_newRank 0 = .ok (.iload_n 2, 1) := by decide +kernel
theorem dX8_newRank_1 : decode cX8_newRank 1 = .ok (.ifCond .eq 81, 3) := by decide +kernel
theorem dX8_newRank_4 : decode cX8_newRank 4 = .ok (.aload_n 0, 1) := by decide +kernel
theorem dX8_newRank_5 : decode cX8_newRank 5 = .ok (.getfield 42, 3) := by decide +kernel
theorem dX8_newRank_8 : decode cX8_newRank 8 = .ok (.iconst 0, 1) := by decide +kernel
theorem dX8_newRank_9 : decode cX8_newRank 9 = .ok (.iaload, 1) := by decide +kernel
theorem dX8_newRank_10 : decode cX8_newRank 10 = .ok (.istore_n 3, 1) := by decide +kernel
theorem dX8_newRank_11 : decode cX8_newRank 11 = .ok (.iconst 1, 1) := by decide +kernel
theorem dX8_newRank_12 : decode cX8_newRank 12 = .ok (.istore 4, 2) := by decide +kernel
theorem dX8_newRank_14 : decode cX8_newRank 14 = .ok (.iload 4, 2) := by decide +kernel
theorem dX8_newRank_16 : decode cX8_newRank 16 = .ok (.aload_n 0, 1) := by decide +kernel
theorem dX8_newRank_17 : decode cX8_newRank 17 = .ok (.getfield 116, 3) := by decide +kernel
theorem dX8_newRank_20 : decode cX8_newRank 20 = .ok (.if_icmp .ge 60, 3) := by decide +kernel
theorem dX8_newRank_23 : decode cX8_newRank 23 = .ok (.iload_n 3, 1) := by decide +kernel
theorem dX8_newRank_24 : decode cX8_newRank 24 = .ok (.aload_n 0, 1) := by decide +kernel
theorem dX8_newRank_25 : decode cX8_newRank 25 = .ok (.getfield 63, 3) := by decide +kernel
theorem dX8_newRank_28 : decode cX8_newRank 28 = .ok (.iload 4, 2) := by decide +kernel
theorem dX8_newRank_30 : decode cX8_newRank 30 = .ok (.baload, 1) := by decide +kernel
theorem dX8_newRank_31 : decode cX8_newRank 31 = .ok (.ifCond .eq 40, 3) := by decide +kernel
theorem dX8_newRank_34 : decode cX8_newRank 34 = .ok (.aload_n 0, 1) := by decide +kernel
theorem dX8_newRank_35 : decode cX8_newRank 35 = .ok (.getfield 38, 3) := by decide +kernel
theorem dX8_newRank_38 : decode cX8_newRank 38 = .ok (.iload 4, 2) := by decide +kernel
theorem dX8_newRank_40 : decode cX8_newRank 40 = .ok (.laload, 1) := by decide +kernel
theorem dX8_newRank_41 : decode cX8_newRank 41 = .ok (.iload_n 1, 1) := by decide +kernel
theorem dX8_newRank_42 : decode cX8_newRank 42 = .ok (.invokestatic 151, 3) := by decide +kernel
theorem dX8_newRank_45 : decode cX8_newRank 45 = .ok (.ifCond .eq 26, 3) := by decide +kernel
theorem dX8_newRank_48 : decode cX8_newRank 48 = .ok (.aload_n 0, 1) := by decide +kernel
theorem dX8_newRank_49 : decode cX8_newRank 49 = .ok (.getfield 42, 3) := by decide +kernel
theorem dX8_newRank_52 : decode cX8_newRank 52 = .ok (.iload 4, 2) := by decide +kernel
theorem dX8_newRank_54 : decode cX8_newRank 54 = .ok (.iaload, 1) := by decide +kernel
theorem dX8_newRank_55 : decode cX8_newRank 55 = .ok (.aload_n 0, 1) := by decide +kernel
theorem dX8_newRank_56 : decode cX8_newRank 56 = .ok (.getfield 42, 3) := by decide +kernel
theorem dX8_newRank_59 : decode cX8_newRank 59 = .ok (.aload_n 0, 1) := by decide +kernel
theorem dX8_newRank_60 : decode cX8_newRank 60 = .ok (.getfield 45, 3) := by decide +kernel
theorem dX8_newRank_63 : decode cX8_newRank 63 = .ok (.iload 4, 2) := by decide +kernel
theorem dX8_newRank_65 : decode cX8_newRank 65 = .ok (.iaload, 1) := by decide +kernel
theorem dX8_newRank_66 : decode cX8_newRank 66 = .ok (.iaload, 1) := by decide +kernel
theorem dX8_newRank_67 : decode cX8_newRank 67 = .ok (.isub, 1) := by decide +kernel
theorem dX8_newRank_68 : decode cX8_newRank 68 = .ok (.goto 4, 3) := by decide +kernel
theorem dX8_newRank_71 : decode cX8_newRank 71 = .ok (.iconst 0, 1) := by decide +kernel
theorem dX8_newRank_72 : decode cX8_newRank 72 = .ok (.iadd, 1) := by decide +kernel
theorem dX8_newRank_73 : decode cX8_newRank 73 = .ok (.istore_n 3, 1) := by decide +kernel
theorem dX8_newRank_74 : decode cX8_newRank 74 = .ok (.iinc 4 1, 3) := by decide +kernel
theorem dX8_newRank_77 : decode cX8_newRank 77 = .ok (.goto (-63), 3) := by decide +kernel
theorem dX8_newRank_80 : decode cX8_newRank 80 = .ok (.iload_n 3, 1) := by decide +kernel
theorem dX8_newRank_81 : decode cX8_newRank 81 = .ok (.ireturn, 1) := by decide +kernel
theorem dX8_newRank_82 : decode cX8_newRank 82 = .ok (.aload_n 0, 1) := by decide +kernel
theorem dX8_newRank_83 : decode cX8_newRank 83 = .ok (.getfield 51, 3) := by decide +kernel
theorem dX8_newRank_86 : decode cX8_newRank 86 = .ok (.iload_n 1, 1) := by decide +kernel
theorem dX8_newRank_87 : decode cX8_newRank 87 = .ok (.iaload, 1) := by decide +kernel
theorem dX8_newRank_88 : decode cX8_newRank 88 = .ok (.istore_n 3, 1) := by decide +kernel
theorem dX8_newRank_89 : decode cX8_newRank 89 = .ok (.aload_n 0, 1) := by decide +kernel
theorem dX8_newRank_90 : decode cX8_newRank 90 = .ok (.getfield 63, 3) := by decide +kernel
theorem dX8_newRank_93 : decode cX8_newRank 93 = .ok (.iload_n 3, 1) := by decide +kernel
theorem dX8_newRank_94 : decode cX8_newRank 94 = .ok (.baload, 1) := by decide +kernel
theorem dX8_newRank_95 : decode cX8_newRank 95 = .ok (.ifCond .ne 13, 3) := by decide +kernel
theorem dX8_newRank_98 : decode cX8_newRank 98 = .ok (.aload_n 0, 1) := by decide +kernel
theorem dX8_newRank_99 : decode cX8_newRank 99 = .ok (.getfield 45, 3) := by decide +kernel
theorem dX8_newRank_102 : decode cX8_newRank 102 = .ok (.iload_n 3, 1) := by decide +kernel
theorem dX8_newRank_103 : decode cX8_newRank 103 = .ok (.iaload, 1) := by decide +kernel
theorem dX8_newRank_104 : decode cX8_newRank 104 = .ok (.istore_n 3, 1) := by decide +kernel
theorem dX8_newRank_105 : decode cX8_newRank 105 = .ok (.goto (-16), 3) := by decide +kernel
theorem dX8_newRank_108 : decode cX8_newRank 108 = .ok (.aload_n 0, 1) := by decide +kernel
theorem dX8_newRank_109 : decode cX8_newRank 109 = .ok (.getfield 42, 3) := by decide +kernel
theorem dX8_newRank_112 : decode cX8_newRank 112 = .ok (.iload_n 3, 1) := by decide +kernel
theorem dX8_newRank_113 : decode cX8_newRank 113 = .ok (.iaload, 1) := by decide +kernel
theorem dX8_newRank_114 : decode cX8_newRank 114 = .ok (.ireturn, 1) := by decide +kernel
theorem dX8_lossNow_0 : decode cX8_lossNow 0 = .ok (.iconst 0, 1) := by decide +kernel
theorem dX8_lossNow_1 : decode cX8_lossNow 1 = .ok (.istore_n 2, 1) := by decide +kernel
theorem dX8_lossNow_2 : decode cX8_lossNow 2 = .ok (.iconst 0, 1) := by decide +kernel
theorem dX8_lossNow_3 : decode cX8_lossNow 3 = .ok (.istore_n 3, 1) := by decide +kernel
theorem dX8_lossNow_4 : decode cX8_lossNow 4 = .ok (.iload_n 3, 1) := by decide +kernel
theorem dX8_lossNow_5 : decode cX8_lossNow 5 = .ok (.aload_n 0, 1) := by decide +kernel
theorem dX8_lossNow_6 : decode cX8_lossNow 6 = .ok (.invokevirtual 76, 3) := by decide +kernel
theorem dX8_lossNow_9 : decode cX8_lossNow 9 = .ok (.if_icmp .ge 31, 3) := by decide +kernel
theorem dX8_lossNow_12 : decode cX8_lossNow 12 = .ok (.iload_n 2, 1) := by decide +kernel
theorem dX8_lossNow_13 : decode cX8_lossNow 13 = .ok (.aload_n 0, 1) := by decide +kernel
theorem dX8_lossNow_14 : decode cX8_lossNow 14 = .ok (.getfield 16, 3) := by decide +kernel
theorem dX8_lossNow_17 : decode cX8_lossNow 17 = .ok (.iload_n 3, 1) := by decide +kernel
theorem dX8_lossNow_18 : decode cX8_lossNow 18 = .ok (.iaload, 1) := by decide +kernel
theorem dX8_lossNow_19 : decode cX8_lossNow 19 = .ok (.aload_n 0, 1) := by decide +kernel
theorem dX8_lossNow_20 : decode cX8_lossNow 20 = .ok (.aload_n 0, 1) := by decide +kernel
theorem dX8_lossNow_21 : decode cX8_lossNow 21 = .ok (.iload_n 3, 1) := by decide +kernel
theorem dX8_lossNow_22 : decode cX8_lossNow 22 = .ok (.iload_n 1, 1) := by decide +kernel
theorem dX8_lossNow_23 : decode cX8_lossNow 23 = .ok (.invokevirtual 269, 3) := by decide +kernel
theorem dX8_lossNow_26 : decode cX8_lossNow 26 = .ok (.invokevirtual 159, 3) := by decide +kernel
theorem dX8_lossNow_29 : decode cX8_lossNow 29 = .ok (.invokestatic 119, 3) := by decide +kernel
theorem dX8_lossNow_32 : decode cX8_lossNow 32 = .ok (.iadd, 1) := by decide +kernel
theorem dX8_lossNow_33 : decode cX8_lossNow 33 = .ok (.istore_n 2, 1) := by decide +kernel
theorem dX8_lossNow_34 : decode cX8_lossNow 34 = .ok (.iinc 3 1, 3) := by decide +kernel
theorem dX8_lossNow_37 : decode cX8_lossNow 37 = .ok (.goto (-33), 3) := by decide +kernel
theorem dX8_lossNow_40 : decode cX8_lossNow 40 = .ok (.iload_n 2, 1) := by decide +kernel
theorem dX8_lossNow_41 : decode cX8_lossNow 41 = .ok (.ireturn, 1) := by decide +kernel
theorem dX8_filtered_0 : decode cX8_filtered 0 = .ok (.aload_n 0, 1) := by decide +kernel
theorem dX8_filtered_1 : decode cX8_filtered 1 = .ok (.aload_n 0, 1) := by decide +kernel
theorem dX8_filtered_2 : decode cX8_filtered 2 = .ok (.iload_n 1, 1) := by decide +kernel
theorem dX8_filtered_3 : decode cX8_filtered 3 = .ok (.invokevirtual 106, 3) := by decide +kernel
theorem dX8_filtered_6 : decode cX8_filtered 6 = .ok (.ifCond .ne 7, 3) := by decide +kernel
theorem dX8_filtered_9 : decode cX8_filtered 9 = .ok (.iconst 1, 1) := by decide +kernel
theorem dX8_filtered_10 : decode cX8_filtered 10 = .ok (.goto 18, 3) := by decide +kernel
theorem dX8_filtered_13 : decode cX8_filtered 13 = .ok (.iload_n 2, 1) := by decide +kernel
theorem dX8_filtered_14 : decode cX8_filtered 14 = .ok (.iload_n 3, 1) := by decide +kernel
theorem dX8_filtered_15 : decode cX8_filtered 15 = .ok (.iload 4, 2) := by decide +kernel
theorem dX8_filtered_17 : decode cX8_filtered 17 = .ok (.invokestatic 259, 3) := by decide +kernel
theorem dX8_filtered_20 : decode cX8_filtered 20 = .ok (.ifCond .eq 7, 3) := by decide +kernel
theorem dX8_filtered_23 : decode cX8_filtered 23 = .ok (.iconst 0, 1) := by decide +kernel
theorem dX8_filtered_24 : decode cX8_filtered 24 = .ok (.goto 4, 3) := by decide +kernel
theorem dX8_filtered_27 : decode cX8_filtered 27 = .ok (.iconst 2, 1) := by decide +kernel
theorem dX8_filtered_28 : decode cX8_filtered 28 = .ok (.putfield 73, 3) := by decide +kernel
theorem dX8_filtered_31 : decode cX8_filtered 31 = .ok (.aload_n 0, 1) := by decide +kernel
theorem dX8_filtered_32 : decode cX8_filtered 32 = .ok (.getfield 73, 3) := by decide +kernel
theorem dX8_filtered_35 : decode cX8_filtered 35 = .ok (.ifCond .le 5, 3) := by decide +kernel
theorem dX8_filtered_38 : decode cX8_filtered 38 = .ok (.iconst 0, 1) := by decide +kernel
theorem dX8_filtered_39 : decode cX8_filtered 39 = .ok (.ireturn, 1) := by decide +kernel
theorem dX8_filtered_40 : decode cX8_filtered 40 = .ok (.aload_n 0, 1) := by decide +kernel
theorem dX8_filtered_41 : decode cX8_filtered 41 = .ok (.iload_n 2, 1) := by decide +kernel
theorem dX8_filtered_42 : decode cX8_filtered 42 = .ok (.invokevirtual 262, 3) := by decide +kernel
theorem dX8_filtered_45 : decode cX8_filtered 45 = .ok (.aload_n 0, 1) := by decide +kernel
theorem dX8_filtered_46 : decode cX8_filtered 46 = .ok (.iload_n 3, 1) := by decide +kernel
theorem dX8_filtered_47 : decode cX8_filtered 47 = .ok (.iload 4, 2) := by decide +kernel
theorem dX8_filtered_49 : decode cX8_filtered 49 = .ok (.invokevirtual 266, 3) := by decide +kernel
theorem dX8_filtered_52 : decode cX8_filtered 52 = .ok (.aload_n 0, 1) := by decide +kernel
theorem dX8_filtered_53 : decode cX8_filtered 53 = .ok (.aload_n 0, 1) := by decide +kernel
theorem dX8_filtered_54 : decode cX8_filtered 54 = .ok (.iload_n 1, 1) := by decide +kernel
theorem dX8_filtered_55 : decode cX8_filtered 55 = .ok (.iload 4, 2) := by decide +kernel
theorem dX8_filtered_57 : decode cX8_filtered 57 = .ok (.iconst 3, 1) := by decide +kernel
theorem dX8_filtered_58 : decode cX8_filtered 58 = .ok (.if_icmp .ne 7, 3) := by decide +kernel
theorem dX8_filtered_61 : decode cX8_filtered 61 = .ok (.iconst 1, 1) := by decide +kernel
theorem dX8_filtered_62 : decode cX8_filtered 62 = .ok (.goto 4, 3) := by decide +kernel
theorem dX8_filtered_65 : decode cX8_filtered 65 = .ok (.iconst 0, 1) := by decide +kernel
theorem dX8_filtered_66 : decode cX8_filtered 66 = .ok (.invokevirtual 269, 3) := by decide +kernel
theorem dX8_filtered_69 : decode cX8_filtered 69 = .ok (.invokevirtual 159, 3) := by decide +kernel
theorem dX8_filtered_72 : decode cX8_filtered 72 = .ok (.ireturn, 1) := by decide +kernel
theorem dX8_lossBy_0 : decode cX8_lossBy 0 = .ok (.aload_n 0, 1) := by decide +kernel
theorem dX8_lossBy_1 : decode cX8_lossBy 1 = .ok (.iload_n 1, 1) := by decide +kernel
theorem dX8_lossBy_2 : decode cX8_lossBy 2 = .ok (.invokevirtual 262, 3) := by decide +kernel
theorem dX8_lossBy_5 : decode cX8_lossBy 5 = .ok (.aload_n 0, 1) := by decide +kernel
theorem dX8_lossBy_6 : decode cX8_lossBy 6 = .ok (.iload_n 2, 1) := by decide +kernel
theorem dX8_lossBy_7 : decode cX8_lossBy 7 = .ok (.iload_n 3, 1) := by decide +kernel
theorem dX8_lossBy_8 : decode cX8_lossBy 8 = .ok (.invokevirtual 266, 3) := by decide +kernel
theorem dX8_lossBy_11 : decode cX8_lossBy 11 = .ok (.aload_n 0, 1) := by decide +kernel
theorem dX8_lossBy_12 : decode cX8_lossBy 12 = .ok (.iload_n 3, 1) := by decide +kernel
theorem dX8_lossBy_13 : decode cX8_lossBy 13 = .ok (.iconst 3, 1) := by decide +kernel
theorem dX8_lossBy_14 : decode cX8_lossBy 14 = .ok (.if_icmp .ne 7, 3) := by decide +kernel
theorem dX8_lossBy_17 : decode cX8_lossBy 17 = .ok (.iconst 1, 1) := by decide +kernel
theorem dX8_lossBy_18 : decode cX8_lossBy 18 = .ok (.goto 4, 3) := by decide +kernel
theorem dX8_lossBy_21 : decode cX8_lossBy 21 = .ok (.iconst 0, 1) := by decide +kernel
theorem dX8_lossBy_22 : decode cX8_lossBy 22 = .ok (.invokevirtual 272, 3) := by decide +kernel
theorem dX8_lossBy_25 : decode cX8_lossBy 25 = .ok (.ireturn, 1) := by decide +kernel
theorem dX8_loss_0 : decode cX8_loss 0 = .ok (.aload_n 0, 1) := by decide +kernel
theorem dX8_loss_1 : decode cX8_loss 1 = .ok (.iload_n 1, 1) := by decide +kernel
theorem dX8_loss_2 : decode cX8_loss 2 = .ok (.iload_n 2, 1) := by decide +kernel
theorem dX8_loss_3 : decode cX8_loss 3 = .ok (.iload_n 3, 1) := by decide +kernel
theorem dX8_loss_4 : decode cX8_loss 4 = .ok (.invokestatic 259, 3) := by decide +kernel
theorem dX8_loss_7 : decode cX8_loss 7 = .ok (.ifCond .eq 7, 3) := by decide +kernel
theorem dX8_loss_10 : decode cX8_loss 10 = .ok (.iconst 0, 1) := by decide +kernel
theorem dX8_loss_11 : decode cX8_loss 11 = .ok (.goto 4, 3) := by decide +kernel
theorem dX8_loss_14 : decode cX8_loss 14 = .ok (.iconst 1, 1) := by decide +kernel
theorem dX8_loss_15 : decode cX8_loss 15 = .ok (.putfield 73, 3) := by decide +kernel
theorem dX8_loss_18 : decode cX8_loss 18 = .ok (.aload_n 0, 1) := by decide +kernel
theorem dX8_loss_19 : decode cX8_loss 19 = .ok (.getfield 73, 3) := by decide +kernel
theorem dX8_loss_22 : decode cX8_loss 22 = .ok (.ifCond .le 7, 3) := by decide +kernel
theorem dX8_loss_25 : decode cX8_loss 25 = .ok (.iconst 0, 1) := by decide +kernel
theorem dX8_loss_26 : decode cX8_loss 26 = .ok (.goto 10, 3) := by decide +kernel
theorem dX8_loss_29 : decode cX8_loss 29 = .ok (.aload_n 0, 1) := by decide +kernel
theorem dX8_loss_30 : decode cX8_loss 30 = .ok (.iload_n 1, 1) := by decide +kernel
theorem dX8_loss_31 : decode cX8_loss 31 = .ok (.iload_n 2, 1) := by decide +kernel
theorem dX8_loss_32 : decode cX8_loss 32 = .ok (.iload_n 3, 1) := by decide +kernel
theorem dX8_loss_33 : decode cX8_loss 33 = .ok (.invokevirtual 276, 3) := by decide +kernel
theorem dX8_loss_36 : decode cX8_loss 36 = .ok (.ireturn, 1) := by decide +kernel
theorem dX8_takeMade_0 : decode cX8_takeMade 0 = .ok (.aload_n 0, 1) := by decide +kernel
theorem dX8_takeMade_1 : decode cX8_takeMade 1 = .ok (.invokevirtual 100, 3) := by decide +kernel
theorem dX8_takeMade_4 : decode cX8_takeMade 4 = .ok (.iconst 0, 1) := by decide +kernel
theorem dX8_takeMade_5 : decode cX8_takeMade 5 = .ok (.istore_n 1, 1) := by decide +kernel
theorem dX8_takeMade_6 : decode cX8_takeMade 6 = .ok (.iconst 0, 1) := by decide +kernel
theorem dX8_takeMade_7 : decode cX8_takeMade 7 = .ok (.istore_n 2, 1) := by decide +kernel
theorem dX8_takeMade_8 : decode cX8_takeMade 8 = .ok (.iload_n 2, 1) := by decide +kernel
theorem dX8_takeMade_9 : decode cX8_takeMade 9 = .ok (.aload_n 0, 1) := by decide +kernel
theorem dX8_takeMade_10 : decode cX8_takeMade 10 = .ok (.invokevirtual 76, 3) := by decide +kernel
theorem dX8_takeMade_13 : decode cX8_takeMade 13 = .ok (.if_icmp .ge 45, 3) := by decide +kernel
theorem dX8_takeMade_16 : decode cX8_takeMade 16 = .ok (.aload_n 0, 1) := by decide +kernel
theorem dX8_takeMade_17 : decode cX8_takeMade 17 = .ok (.aload_n 0, 1) := by decide +kernel
theorem dX8_takeMade_18 : decode cX8_takeMade 18 = .ok (.getfield 67, 3) := by decide +kernel
theorem dX8_takeMade_21 : decode cX8_takeMade 21 = .ok (.iload_n 2, 1) := by decide +kernel
theorem dX8_takeMade_22 : decode cX8_takeMade 22 = .ok (.iaload, 1) := by decide +kernel
theorem dX8_takeMade_23 : decode cX8_takeMade 23 = .ok (.invokevirtual 159, 3) := by decide +kernel
theorem dX8_takeMade_26 : decode cX8_takeMade 26 = .ok (.istore_n 3, 1) := by decide +kernel
theorem dX8_takeMade_27 : decode cX8_takeMade 27 = .ok (.iload_n 1, 1) := by decide +kernel
theorem dX8_takeMade_28 : decode cX8_takeMade 28 = .ok (.aload_n 0, 1) := by decide +kernel
theorem dX8_takeMade_29 : decode cX8_takeMade 29 = .ok (.getfield 16, 3) := by decide +kernel
theorem dX8_takeMade_32 : decode cX8_takeMade 32 = .ok (.iload_n 2, 1) := by decide +kernel
theorem dX8_takeMade_33 : decode cX8_takeMade 33 = .ok (.iaload, 1) := by decide +kernel
theorem dX8_takeMade_34 : decode cX8_takeMade 34 = .ok (.iload_n 3, 1) := by decide +kernel
theorem dX8_takeMade_35 : decode cX8_takeMade 35 = .ok (.if_icmp .ne 7, 3) := by decide +kernel
theorem dX8_takeMade_38 : decode cX8_takeMade 38 = .ok (.iconst 0, 1) := by decide +kernel
theorem dX8_takeMade_39 : decode cX8_takeMade 39 = .ok (.goto 4, 3) := by decide +kernel
theorem dX8_takeMade_42 : decode cX8_takeMade 42 = .ok (.iconst 1, 1) := by decide +kernel
theorem dX8_takeMade_43 : decode cX8_takeMade 43 = .ok (.iadd, 1) := by decide +kernel
theorem dX8_takeMade_44 : decode cX8_takeMade 44 = .ok (.istore_n 1, 1) := by decide +kernel
theorem dX8_takeMade_45 : decode cX8_takeMade 45 = .ok (.aload_n 0, 1) := by decide +kernel
theorem dX8_takeMade_46 : decode cX8_takeMade 46 = .ok (.getfield 16, 3) := by decide +kernel
theorem dX8_takeMade_49 : decode cX8_takeMade 49 = .ok (.iload_n 2, 1) := by decide +kernel
theorem dX8_takeMade_50 : decode cX8_takeMade 50 = .ok (.iload_n 3, 1) := by decide +kernel
theorem dX8_takeMade_51 : decode cX8_takeMade 51 = .ok (.iastore, 1) := by decide +kernel
theorem dX8_takeMade_52 : decode cX8_takeMade 52 = .ok (.iinc 2 1, 3) := by decide +kernel
theorem dX8_takeMade_55 : decode cX8_takeMade 55 = .ok (.goto (-47), 3) := by decide +kernel
theorem dX8_takeMade_58 : decode cX8_takeMade 58 = .ok (.iload_n 1, 1) := by decide +kernel
theorem dX8_takeMade_59 : decode cX8_takeMade 59 = .ok (.ireturn, 1) := by decide +kernel
theorem dX8_takeRemains_0 : decode cX8_takeRemains 0 = .ok (.iconst 0, 1) := by decide +kernel
theorem dX8_takeRemains_1 : decode cX8_takeRemains 1 = .ok (.istore_n 2, 1) := by decide +kernel
theorem dX8_takeRemains_2 : decode cX8_takeRemains 2 = .ok (.iload_n 2, 1) := by decide +kernel
theorem dX8_takeRemains_3 : decode cX8_takeRemains 3 = .ok (.aload_n 0, 1) := by decide +kernel
theorem dX8_takeRemains_4 : decode cX8_takeRemains 4 = .ok (.invokevirtual 76, 3) := by decide +kernel
theorem dX8_takeRemains_7 : decode cX8_takeRemains 7 = .ok (.if_icmp .ge 21, 3) := by decide +kernel
theorem dX8_takeRemains_10 : decode cX8_takeRemains 10 = .ok (.aload_n 0, 1) := by decide +kernel
theorem dX8_takeRemains_11 : decode cX8_takeRemains 11 = .ok (.getfield 67, 3) := by decide +kernel
theorem dX8_takeRemains_14 : decode cX8_takeRemains 14 = .ok (.iload_n 2, 1) := by decide +kernel
theorem dX8_takeRemains_15 : decode cX8_takeRemains 15 = .ok (.aload_n 0, 1) := by decide +kernel
theorem dX8_takeRemains_16 : decode cX8_takeRemains 16 = .ok (.iload_n 2, 1) := by decide +kernel
theorem dX8_takeRemains_17 : decode cX8_takeRemains 17 = .ok (.iload_n 1, 1) := by decide +kernel
theorem dX8_takeRemains_18 : decode cX8_takeRemains 18 = .ok (.invokevirtual 269, 3) := by decide +kernel
theorem dX8_takeRemains_21 : decode cX8_takeRemains 21 = .ok (.iastore, 1) := by decide +kernel
theorem dX8_takeRemains_22 : decode cX8_takeRemains 22 = .ok (.iinc 2 1, 3) := by decide +kernel
theorem dX8_takeRemains_25 : decode cX8_takeRemains 25 = .ok (.goto (-23), 3) := by decide +kernel
theorem dX8_takeRemains_28 : decode cX8_takeRemains 28 = .ok (.aload_n 0, 1) := by decide +kernel
theorem dX8_takeRemains_29 : decode cX8_takeRemains 29 = .ok (.invokevirtual 280, 3) := by decide +kernel
theorem dX8_takeRemains_32 : decode cX8_takeRemains 32 = .ok (.ireturn, 1) := by decide +kernel
theorem dX8_filter_0 : decode cX8_filter 0 = .ok (.aload_n 0, 1) := by decide +kernel
theorem dX8_filter_1 : decode cX8_filter 1 = .ok (.iload_n 1, 1) := by decide +kernel
theorem dX8_filter_2 : decode cX8_filter 2 = .ok (.iload_n 2, 1) := by decide +kernel
theorem dX8_filter_3 : decode cX8_filter 3 = .ok (.iload_n 3, 1) := by decide +kernel
theorem dX8_filter_4 : decode cX8_filter 4 = .ok (.invokestatic 259, 3) := by decide +kernel
theorem dX8_filter_7 : decode cX8_filter 7 = .ok (.ifCond .eq 7, 3) := by decide +kernel
theorem dX8_filter_10 : decode cX8_filter 10 = .ok (.iconst 0, 1) := by decide +kernel
theorem dX8_filter_11 : decode cX8_filter 11 = .ok (.goto 4, 3) := by decide +kernel
theorem dX8_filter_14 : decode cX8_filter 14 = .ok (.iconst 1, 1) := by decide +kernel
theorem dX8_filter_15 : decode cX8_filter 15 = .ok (.putfield 73, 3) := by decide +kernel
theorem dX8_filter_18 : decode cX8_filter 18 = .ok (.aload_n 0, 1) := by decide +kernel
theorem dX8_filter_19 : decode cX8_filter 19 = .ok (.getfield 73, 3) := by decide +kernel
theorem dX8_filter_22 : decode cX8_filter 22 = .ok (.ifCond .le 5, 3) := by decide +kernel
theorem dX8_filter_25 : decode cX8_filter 25 = .ok (.iconst 0, 1) := by decide +kernel
theorem dX8_filter_26 : decode cX8_filter 26 = .ok (.ireturn, 1) := by decide +kernel
theorem dX8_filter_27 : decode cX8_filter 27 = .ok (.aload_n 0, 1) := by decide +kernel
theorem dX8_filter_28 : decode cX8_filter 28 = .ok (.iload_n 1, 1) := by decide +kernel
theorem dX8_filter_29 : decode cX8_filter 29 = .ok (.invokevirtual 262, 3) := by decide +kernel
theorem dX8_filter_32 : decode cX8_filter 32 = .ok (.aload_n 0, 1) := by decide +kernel
theorem dX8_filter_33 : decode cX8_filter 33 = .ok (.iload_n 2, 1) := by decide +kernel
theorem dX8_filter_34 : decode cX8_filter 34 = .ok (.iload_n 3, 1) := by decide +kernel
theorem dX8_filter_35 : decode cX8_filter 35 = .ok (.invokevirtual 266, 3) := by decide +kernel
theorem dX8_filter_38 : decode cX8_filter 38 = .ok (.aload_n 0, 1) := by decide +kernel
theorem dX8_filter_39 : decode cX8_filter 39 = .ok (.iload_n 3, 1) := by decide +kernel
theorem dX8_filter_40 : decode cX8_filter 40 = .ok (.iconst 3, 1) := by decide +kernel
theorem dX8_filter_41 : decode cX8_filter 41 = .ok (.if_icmp .ne 7, 3) := by decide +kernel
theorem dX8_filter_44 : decode cX8_filter 44 = .ok (.iconst 1, 1) := by decide +kernel
theorem dX8_filter_45 : decode cX8_filter 45 = .ok (.goto 4, 3) := by decide +kernel
theorem dX8_filter_48 : decode cX8_filter 48 = .ok (.iconst 0, 1) := by decide +kernel
theorem dX8_filter_49 : decode cX8_filter 49 = .ok (.invokevirtual 283, 3) := by decide +kernel
theorem dX8_filter_52 : decode cX8_filter 52 = .ok (.ireturn, 1) := by decide +kernel
theorem dX8_threshold_0 : decode cX8_threshold 0 = .ok (.aload_n 0, 1) := by decide +kernel
theorem dX8_threshold_1 : decode cX8_threshold 1 = .ok (.iload_n 1, 1) := by decide +kernel
theorem dX8_threshold_2 : decode cX8_threshold 2 = .ok (.iload_n 2, 1) := by decide +kernel
theorem dX8_threshold_3 : decode cX8_threshold 3 = .ok (.iconst 1, 1) := by decide +kernel
theorem dX8_threshold_4 : decode cX8_threshold 4 = .ok (.invokestatic 259, 3) := by decide +kernel
theorem dX8_threshold_7 : decode cX8_threshold 7 = .ok (.ifCond .eq 7, 3) := by decide +kernel
theorem dX8_threshold_10 : decode cX8_threshold 10 = .ok (.iconst 0, 1) := by decide +kernel
theorem dX8_threshold_11 : decode cX8_threshold 11 = .ok (.goto 4, 3) := by decide +kernel
theorem dX8_threshold_14 : decode cX8_threshold 14 = .ok (.iconst 1, 1) := by decide +kernel
theorem dX8_threshold_15 : decode cX8_threshold 15 = .ok (.putfield 73, 3) := by decide +kernel
theorem dX8_threshold_18 : decode cX8_threshold 18 = .ok (.aload_n 0, 1) := by decide +kernel
theorem dX8_threshold_19 : decode cX8_threshold 19 = .ok (.getfield 73, 3) := by decide +kernel
theorem dX8_threshold_22 : decode cX8_threshold 22 = .ok (.ifCond .le 5, 3) := by decide +kernel
theorem dX8_threshold_25 : decode cX8_threshold 25 = .ok (.iconst 0, 1) := by decide +kernel
theorem dX8_threshold_26 : decode cX8_threshold 26 = .ok (.ireturn, 1) := by decide +kernel
theorem dX8_threshold_27 : decode cX8_threshold 27 = .ok (.aload_n 0, 1) := by decide +kernel
theorem dX8_threshold_28 : decode cX8_threshold 28 = .ok (.iload_n 1, 1) := by decide +kernel
theorem dX8_threshold_29 : decode cX8_threshold 29 = .ok (.invokevirtual 262, 3) := by decide +kernel
theorem dX8_threshold_32 : decode cX8_threshold 32 = .ok (.iconst 0, 1) := by decide +kernel
theorem dX8_threshold_33 : decode cX8_threshold 33 = .ok (.istore_n 3, 1) := by decide +kernel
theorem dX8_threshold_34 : decode cX8_threshold 34 = .ok (.iload_n 3, 1) := by decide +kernel
theorem dX8_threshold_35 : decode cX8_threshold 35 = .ok (.sipush 999, 3) := by decide +kernel
theorem dX8_threshold_38 : decode cX8_threshold 38 = .ok (.if_icmp .gt 26, 3) := by decide +kernel
theorem dX8_threshold_41 : decode cX8_threshold 41 = .ok (.aload_n 0, 1) := by decide +kernel
theorem dX8_threshold_42 : decode cX8_threshold 42 = .ok (.iload_n 3, 1) := by decide +kernel
theorem dX8_threshold_43 : decode cX8_threshold 43 = .ok (.iconst 1, 1) := by decide +kernel
theorem dX8_threshold_44 : decode cX8_threshold 44 = .ok (.invokevirtual 266, 3) := by decide +kernel
theorem dX8_threshold_47 : decode cX8_threshold 47 = .ok (.aload_n 0, 1) := by decide +kernel
theorem dX8_threshold_48 : decode cX8_threshold 48 = .ok (.iconst 0, 1) := by decide +kernel
theorem dX8_threshold_49 : decode cX8_threshold 49 = .ok (.invokevirtual 272, 3) := by decide +kernel
theorem dX8_threshold_52 : decode cX8_threshold 52 = .ok (.iload_n 2, 1) := by decide +kernel
theorem dX8_threshold_53 : decode cX8_threshold 53 = .ok (.if_icmp .le 5, 3) := by decide +kernel
theorem dX8_threshold_56 : decode cX8_threshold 56 = .ok (.iload_n 3, 1) := by decide +kernel
theorem dX8_threshold_57 : decode cX8_threshold 57 = .ok (.ireturn, 1) := by decide +kernel
theorem dX8_threshold_58 : decode cX8_threshold 58 = .ok (.iinc 3 1, 3) := by decide +kernel
theorem dX8_threshold_61 : decode cX8_threshold 61 = .ok (.goto (-27), 3) := by decide +kernel
theorem dX8_threshold_64 : decode cX8_threshold 64 = .ok (.iconst (-1), 1) := by decide +kernel
theorem dX8_threshold_65 : decode cX8_threshold 65 = .ok (.ireturn, 1) := by decide +kernel
theorem dX8_reconstructed_0 : decode cX8_reconstructed 0 = .ok (.aload_n 0, 1) := by decide +kernel
theorem dX8_reconstructed_1 : decode cX8_reconstructed 1 = .ok (.aload_n 0, 1) := by decide +kernel
theorem dX8_reconstructed_2 : decode cX8_reconstructed 2 = .ok (.getfield 16, 3) := by decide +kernel
theorem dX8_reconstructed_5 : decode cX8_reconstructed 5 = .ok (.iload_n 1, 1) := by decide +kernel
theorem dX8_reconstructed_6 : decode cX8_reconstructed 6 = .ok (.iaload, 1) := by decide +kernel
theorem dX8_reconstructed_7 : decode cX8_reconstructed 7 = .ok (.invokevirtual 159, 3) := by decide +kernel
theorem dX8_reconstructed_10 : decode cX8_reconstructed 10 = .ok (.istore_n 2, 1) := by decide +kernel
theorem dX8_reconstructed_11 : decode cX8_reconstructed 11 = .ok (.iload_n 2, 1) := by decide +kernel
theorem dX8_reconstructed_12 : decode cX8_reconstructed 12 = .ok (.ifCond .le 61, 3) := by decide +kernel
theorem dX8_reconstructed_15 : decode cX8_reconstructed 15 = .ok (.aload_n 0, 1) := by decide +kernel
theorem dX8_reconstructed_16 : decode cX8_reconstructed 16 = .ok (.getfield 38, 3) := by decide +kernel
theorem dX8_reconstructed_19 : decode cX8_reconstructed 19 = .ok (.aload_n 0, 1) := by decide +kernel
theorem dX8_reconstructed_20 : decode cX8_reconstructed 20 = .ok (.iload_n 1, 1) := by decide +kernel
theorem dX8_reconstructed_21 : decode cX8_reconstructed 21 = .ok (.iload_n 2, 1) := by decide +kernel
theorem dX8_reconstructed_22 : decode cX8_reconstructed 22 = .ok (.invokevirtual 253, 3) := by decide +kernel
theorem dX8_reconstructed_25 : decode cX8_reconstructed 25 = .ok (.laload, 1) := by decide +kernel
theorem dX8_reconstructed_26 : decode cX8_reconstructed 26 = .ok (.lstore_n 3, 1) := by decide +kernel
theorem dX8_reconstructed_27 : decode cX8_reconstructed 27 = .ok (.iconst 0, 1) := by decide +kernel
theorem dX8_reconstructed_28 : decode cX8_reconstructed 28 = .ok (.istore 5, 2) := by decide +kernel
theorem dX8_reconstructed_30 : decode cX8_reconstructed 30 = .ok (.iload 5, 2) := by decide +kernel
theorem dX8_reconstructed_32 : decode cX8_reconstructed 32 = .ok (.aload_n 0, 1) := by decide +kernel
theorem dX8_reconstructed_33 : decode cX8_reconstructed 33 = .ok (.invokevirtual 76, 3) := by decide +kernel
theorem dX8_reconstructed_36 : decode cX8_reconstructed 36 = .ok (.if_icmp .ge 31, 3) := by decide +kernel
theorem dX8_reconstructed_39 : decode cX8_reconstructed 39 = .ok (.lload_n 3, 1) := by decide +kernel
theorem dX8_reconstructed_40 : decode cX8_reconstructed 40 = .ok (.iload 5, 2) := by decide +kernel
theorem dX8_reconstructed_42 : decode cX8_reconstructed 42 = .ok (.invokestatic 151, 3) := by decide +kernel
theorem dX8_reconstructed_45 : decode cX8_reconstructed 45 = .ok (.ifCond .eq 16, 3) := by decide +kernel
theorem dX8_reconstructed_48 : decode cX8_reconstructed 48 = .ok (.aload_n 0, 1) := by decide +kernel
theorem dX8_reconstructed_49 : decode cX8_reconstructed 49 = .ok (.getfield 70, 3) := by decide +kernel
theorem dX8_reconstructed_52 : decode cX8_reconstructed 52 = .ok (.iload 5, 2) := by decide +kernel
theorem dX8_reconstructed_54 : decode cX8_reconstructed 54 = .ok (.iaload, 1) := by decide +kernel
theorem dX8_reconstructed_55 : decode cX8_reconstructed 55 = .ok (.iload_n 2, 1) := by decide +kernel
theorem dX8_reconstructed_56 : decode cX8_reconstructed 56 = .ok (.if_icmp .lt 5, 3) := by decide +kernel
theorem dX8_reconstructed_59 : decode cX8_reconstructed 59 = .ok (.iload_n 2, 1) := by decide +kernel
theorem dX8_reconstructed_60 : decode cX8_reconstructed 60 = .ok (.ireturn, 1) := by decide +kernel
theorem dX8_reconstructed_61 : decode cX8_reconstructed 61 = .ok (.iinc 5 1, 3) := by decide +kernel
theorem dX8_reconstructed_64 : decode cX8_reconstructed 64 = .ok (.goto (-34), 3) := by decide +kernel
theorem dX8_reconstructed_67 : decode cX8_reconstructed 67 = .ok (.iinc 2 (-1), 3) := by decide +kernel
theorem dX8_reconstructed_70 : decode cX8_reconstructed 70 = .ok (.goto (-59), 3) := by decide +kernel
theorem dX8_reconstructed_73 : decode cX8_reconstructed 73 = .ok (.iconst 0, 1) := by decide +kernel
theorem dX8_reconstructed_74 : decode cX8_reconstructed 74 = .ok (.ireturn, 1) := by decide +kernel
theorem dX8_takeReconstructed_0 : decode cX8_takeReconstructed 0 = .ok (.aload_n 0, 1) := by decide +kernel
theorem dX8_takeReconstructed_1 : decode cX8_takeReconstructed 1 = .ok (.invokevirtual 113, 3) := by decide +kernel
theorem dX8_takeReconstructed_4 : decode cX8_takeReconstructed 4 = .ok (.iconst 0, 1) := by decide +kernel
theorem dX8_takeReconstructed_5 : decode cX8_takeReconstructed 5 = .ok (.istore_n 1, 1) := by decide +kernel
theorem dX8_takeReconstructed_6 : decode cX8_takeReconstructed 6 = .ok (.iload_n 1, 1) := by decide +kernel
theorem dX8_takeReconstructed_7 : decode cX8_takeReconstructed 7 = .ok (.aload_n 0, 1) := by decide +kernel
theorem dX8_takeReconstructed_8 : decode cX8_takeReconstructed 8 = .ok (.invokevirtual 76, 3) := by decide +kernel
theorem dX8_takeReconstructed_11 : decode cX8_takeReconstructed 11 = .ok (.if_icmp .ge 20, 3) := by decide +kernel
theorem dX8_takeReconstructed_14 : decode cX8_takeReconstructed 14 = .ok (.aload_n 0, 1) := by decide +kernel
theorem dX8_takeReconstructed_15 : decode cX8_takeReconstructed 15 = .ok (.getfield 67, 3) := by decide +kernel
theorem dX8_takeReconstructed_18 : decode cX8_takeReconstructed 18 = .ok (.iload_n 1, 1) := by decide +kernel
theorem dX8_takeReconstructed_19 : decode cX8_takeReconstructed 19 = .ok (.aload_n 0, 1) := by decide +kernel
theorem dX8_takeReconstructed_20 : decode cX8_takeReconstructed 20 = .ok (.iload_n 1, 1) := by decide +kernel
theorem dX8_takeReconstructed_21 : decode cX8_takeReconstructed 21 = .ok (.invokevirtual 286, 3) := by decide +kernel
theorem dX8_takeReconstructed_24 : decode cX8_takeReconstructed 24 = .ok (.iastore, 1) := by decide +kernel
theorem dX8_takeReconstructed_25 : decode cX8_takeReconstructed 25 = .ok (.iinc 1 1, 3) := by decide +kernel
theorem dX8_takeReconstructed_28 : decode cX8_takeReconstructed 28 = .ok (.goto (-22), 3) := by decide +kernel
theorem dX8_takeReconstructed_31 : decode cX8_takeReconstructed 31 = .ok (.aload_n 0, 1) := by decide +kernel
theorem dX8_takeReconstructed_32 : decode cX8_takeReconstructed 32 = .ok (.invokevirtual 280, 3) := by decide +kernel
theorem dX8_takeReconstructed_35 : decode cX8_takeReconstructed 35 = .ok (.ireturn, 1) := by decide +kernel
theorem dX8_reconstruct_0 : decode cX8_reconstruct 0 = .ok (.aload_n 0, 1) := by decide +kernel
theorem dX8_reconstruct_1 : decode cX8_reconstruct 1 = .ok (.iconst 0, 1) := by decide +kernel
theorem dX8_reconstruct_2 : decode cX8_reconstruct 2 = .ok (.putfield 73, 3) := by decide +kernel
theorem dX8_reconstruct_5 : decode cX8_reconstruct 5 = .ok (.iconst 0, 1) := by decide +kernel
theorem dX8_reconstruct_6 : decode cX8_reconstruct 6 = .ok (.istore_n 1, 1) := by decide +kernel
theorem dX8_reconstruct_7 : decode cX8_reconstruct 7 = .ok (.iload_n 1, 1) := by decide +kernel
theorem dX8_reconstruct_8 : decode cX8_reconstruct 8 = .ok (.aload_n 0, 1) := by decide +kernel
theorem dX8_reconstruct_9 : decode cX8_reconstruct 9 = .ok (.invokevirtual 76, 3) := by decide +kernel
theorem dX8_reconstruct_12 : decode cX8_reconstruct 12 = .ok (.if_icmp .ge 25, 3) := by decide +kernel
theorem dX8_reconstruct_15 : decode cX8_reconstruct 15 = .ok (.aload_n 0, 1) := by decide +kernel
theorem dX8_reconstruct_16 : decode cX8_reconstruct 16 = .ok (.getfield 70, 3) := by decide +kernel
theorem dX8_reconstruct_19 : decode cX8_reconstruct 19 = .ok (.iload_n 1, 1) := by decide +kernel
theorem dX8_reconstruct_20 : decode cX8_reconstruct 20 = .ok (.aload_n 0, 1) := by decide +kernel
theorem dX8_reconstruct_21 : decode cX8_reconstruct 21 = .ok (.aload_n 0, 1) := by decide +kernel
theorem dX8_reconstruct_22 : decode cX8_reconstruct 22 = .ok (.getfield 20, 3) := by decide +kernel
theorem dX8_reconstruct_25 : decode cX8_reconstruct 25 = .ok (.iload_n 1, 1) := by decide +kernel
theorem dX8_reconstruct_26 : decode cX8_reconstruct 26 = .ok (.iaload, 1) := by decide +kernel
theorem dX8_reconstruct_27 : decode cX8_reconstruct 27 = .ok (.invokevirtual 159, 3) := by decide +kernel
theorem dX8_reconstruct_30 : decode cX8_reconstruct 30 = .ok (.iastore, 1) := by decide +kernel
theorem dX8_reconstruct_31 : decode cX8_reconstruct 31 = .ok (.iinc 1 1, 3) := by decide +kernel
theorem dX8_reconstruct_34 : decode cX8_reconstruct 34 = .ok (.goto (-27), 3) := by decide +kernel
theorem dX8_reconstruct_37 : decode cX8_reconstruct 37 = .ok (.aload_n 0, 1) := by decide +kernel
theorem dX8_reconstruct_38 : decode cX8_reconstruct 38 = .ok (.invokevirtual 289, 3) := by decide +kernel
theorem dX8_reconstruct_41 : decode cX8_reconstruct 41 = .ok (.ireturn, 1) := by decide +kernel
theorem dX8_suppress_0 : decode cX8_suppress 0 = .ok (.aload_n 0, 1) := by decide +kernel
theorem dX8_suppress_1 : decode cX8_suppress 1 = .ok (.iload_n 1, 1) := by decide +kernel
theorem dX8_suppress_2 : decode cX8_suppress 2 = .ok (.iconst 0, 1) := by decide +kernel
theorem dX8_suppress_3 : decode cX8_suppress 3 = .ok (.bipush 15, 2) := by decide +kernel
theorem dX8_suppress_5 : decode cX8_suppress 5 = .ok (.invokestatic 80, 3) := by decide +kernel
theorem dX8_suppress_8 : decode cX8_suppress 8 = .ok (.ifCond .eq 7, 3) := by decide +kernel
theorem dX8_suppress_11 : decode cX8_suppress 11 = .ok (.iconst 0, 1) := by decide +kernel
theorem dX8_suppress_12 : decode cX8_suppress 12 = .ok (.goto 4, 3) := by decide +kernel
theorem dX8_suppress_15 : decode cX8_suppress 15 = .ok (.iconst 1, 1) := by decide +kernel
theorem dX8_suppress_16 : decode cX8_suppress 16 = .ok (.putfield 73, 3) := by decide +kernel
theorem dX8_suppress_19 : decode cX8_suppress 19 = .ok (.aload_n 0, 1) := by decide +kernel
theorem dX8_suppress_20 : decode cX8_suppress 20 = .ok (.getfield 73, 3) := by decide +kernel
theorem dX8_suppress_23 : decode cX8_suppress 23 = .ok (.ifCond .le 5, 3) := by decide +kernel
theorem dX8_suppress_26 : decode cX8_suppress 26 = .ok (.iconst 0, 1) := by decide +kernel
theorem dX8_suppress_27 : decode cX8_suppress 27 = .ok (.ireturn, 1) := by decide +kernel
theorem dX8_suppress_28 : decode cX8_suppress 28 = .ok (.iconst 0, 1) := by decide +kernel
theorem dX8_suppress_29 : decode cX8_suppress 29 = .ok (.istore_n 2, 1) := by decide +kernel
theorem dX8_suppress_30 : decode cX8_suppress 30 = .ok (.iload_n 2, 1) := by decide +kernel
theorem dX8_suppress_31 : decode cX8_suppress 31 = .ok (.aload_n 0, 1) := by decide +kernel
theorem dX8_suppress_32 : decode cX8_suppress 32 = .ok (.invokevirtual 76, 3) := by decide +kernel
theorem dX8_suppress_35 : decode cX8_suppress 35 = .ok (.if_icmp .ge 31, 3) := by decide +kernel
theorem dX8_suppress_38 : decode cX8_suppress 38 = .ok (.aload_n 0, 1) := by decide +kernel
theorem dX8_suppress_39 : decode cX8_suppress 39 = .ok (.getfield 70, 3) := by decide +kernel
theorem dX8_suppress_42 : decode cX8_suppress 42 = .ok (.iload_n 2, 1) := by decide +kernel
theorem dX8_suppress_43 : decode cX8_suppress 43 = .ok (.aload_n 0, 1) := by decide +kernel
theorem dX8_suppress_44 : decode cX8_suppress 44 = .ok (.aload_n 0, 1) := by decide +kernel
theorem dX8_suppress_45 : decode cX8_suppress 45 = .ok (.getfield 16, 3) := by decide +kernel
theorem dX8_suppress_48 : decode cX8_suppress 48 = .ok (.iload_n 2, 1) := by decide +kernel
theorem dX8_suppress_49 : decode cX8_suppress 49 = .ok (.iaload, 1) := by decide +kernel
theorem dX8_suppress_50 : decode cX8_suppress 50 = .ok (.invokevirtual 159, 3) := by decide +kernel
theorem dX8_suppress_53 : decode cX8_suppress 53 = .ok (.iload_n 1, 1) := by decide +kernel
theorem dX8_suppress_54 : decode cX8_suppress 54 = .ok (.isub, 1) := by decide +kernel
theorem dX8_suppress_55 : decode cX8_suppress 55 = .ok (.iconst 0, 1) := by decide +kernel
theorem dX8_suppress_56 : decode cX8_suppress 56 = .ok (.invokestatic 199, 3) := by decide +kernel
theorem dX8_suppress_59 : decode cX8_suppress 59 = .ok (.iastore, 1) := by decide +kernel
theorem dX8_suppress_60 : decode cX8_suppress 60 = .ok (.iinc 2 1, 3) := by decide +kernel
theorem dX8_suppress_63 : decode cX8_suppress 63 = .ok (.goto (-33), 3) := by decide +kernel
theorem dX8_suppress_66 : decode cX8_suppress 66 = .ok (.aload_n 0, 1) := by decide +kernel
theorem dX8_suppress_67 : decode cX8_suppress 67 = .ok (.invokevirtual 289, 3) := by decide +kernel
theorem dX8_suppress_70 : decode cX8_suppress 70 = .ok (.ireturn, 1) := by decide +kernel
theorem dX8_keepPeaks_0 : decode cX8_keepPeaks 0 = .ok (.aload_n 0, 1) := by decide +kernel
theorem dX8_keepPeaks_1 : decode cX8_keepPeaks 1 = .ok (.iload_n 1, 1) := by decide +kernel
theorem dX8_keepPeaks_2 : decode cX8_keepPeaks 2 = .ok (.iconst 0, 1) := by decide +kernel
theorem dX8_keepPeaks_3 : decode cX8_keepPeaks 3 = .ok (.bipush 64, 2) := by decide +kernel
theorem dX8_keepPeaks_5 : decode cX8_keepPeaks 5 = .ok (.invokestatic 80, 3) := by decide +kernel
theorem dX8_keepPeaks_8 : decode cX8_keepPeaks 8 = .ok (.ifCond .eq 7, 3) := by decide +kernel
theorem dX8_keepPeaks_11 : decode cX8_keepPeaks 11 = .ok (.iconst 0, 1) := by decide +kernel
theorem dX8_keepPeaks_12 : decode cX8_keepPeaks 12 = .ok (.goto 4, 3) := by decide +kernel
theorem dX8_keepPeaks_15 : decode cX8_keepPeaks 15 = .ok (.iconst 1, 1) := by decide +kernel
theorem dX8_keepPeaks_16 : decode cX8_keepPeaks 16 = .ok (.putfield 73, 3) := by decide +kernel
theorem dX8_keepPeaks_19 : decode cX8_keepPeaks 19 = .ok (.aload_n 0, 1) := by decide +kernel
theorem dX8_keepPeaks_20 : decode cX8_keepPeaks 20 = .ok (.getfield 73, 3) := by decide +kernel
theorem dX8_keepPeaks_23 : decode cX8_keepPeaks 23 = .ok (.ifCond .le 5, 3) := by decide +kernel
theorem dX8_keepPeaks_26 : decode cX8_keepPeaks 26 = .ok (.iconst 0, 1) := by decide +kernel
theorem dX8_keepPeaks_27 : decode cX8_keepPeaks 27 = .ok (.ireturn, 1) := by decide +kernel
theorem dX8_keepPeaks_28 : decode cX8_keepPeaks 28 = .ok (.aload_n 0, 1) := by decide +kernel
theorem dX8_keepPeaks_29 : decode cX8_keepPeaks 29 = .ok (.invokevirtual 113, 3) := by decide +kernel
theorem dX8_keepPeaks_32 : decode cX8_keepPeaks 32 = .ok (.iconst 0, 1) := by decide +kernel
theorem dX8_keepPeaks_33 : decode cX8_keepPeaks 33 = .ok (.istore_n 2, 1) := by decide +kernel
theorem dX8_keepPeaks_34 : decode cX8_keepPeaks 34 = .ok (.iload_n 2, 1) := by decide +kernel
theorem dX8_keepPeaks_35 : decode cX8_keepPeaks 35 = .ok (.aload_n 0, 1) := by decide +kernel
theorem dX8_keepPeaks_36 : decode cX8_keepPeaks 36 = .ok (.getfield 116, 3) := by decide +kernel
theorem dX8_keepPeaks_39 : decode cX8_keepPeaks 39 = .ok (.if_icmp .ge 89, 3) := by decide +kernel
theorem dX8_keepPeaks_42 : decode cX8_keepPeaks 42 = .ok (.aload_n 0, 1) := by decide +kernel
theorem dX8_keepPeaks_43 : decode cX8_keepPeaks 43 = .ok (.getfield 63, 3) := by decide +kernel
theorem dX8_keepPeaks_46 : decode cX8_keepPeaks 46 = .ok (.iload_n 2, 1) := by decide +kernel
theorem dX8_keepPeaks_47 : decode cX8_keepPeaks 47 = .ok (.iload_n 2, 1) := by decide +kernel
theorem dX8_keepPeaks_48 : decode cX8_keepPeaks 48 = .ok (.ifCond .ne 7, 3) := by decide +kernel
theorem dX8_keepPeaks_51 : decode cX8_keepPeaks 51 = .ok (.iconst 1, 1) := by decide +kernel
theorem dX8_keepPeaks_52 : decode cX8_keepPeaks 52 = .ok (.goto 4, 3) := by decide +kernel
theorem dX8_keepPeaks_55 : decode cX8_keepPeaks 55 = .ok (.iconst 0, 1) := by decide +kernel
theorem dX8_keepPeaks_56 : decode cX8_keepPeaks 56 = .ok (.bastore, 1) := by decide +kernel
theorem dX8_keepPeaks_57 : decode cX8_keepPeaks 57 = .ok (.iconst 0, 1) := by decide +kernel
theorem dX8_keepPeaks_58 : decode cX8_keepPeaks 58 = .ok (.istore_n 3, 1) := by decide +kernel
theorem dX8_keepPeaks_59 : decode cX8_keepPeaks 59 = .ok (.iload_n 3, 1) := by decide +kernel
theorem dX8_keepPeaks_60 : decode cX8_keepPeaks 60 = .ok (.iload_n 1, 1) := by decide +kernel
theorem dX8_keepPeaks_61 : decode cX8_keepPeaks 61 = .ok (.if_icmp .ge 61, 3) := by decide +kernel
theorem dX8_keepPeaks_64 : decode cX8_keepPeaks 64 = .ok (.iload_n 3, 1) := by decide +kernel
theorem dX8_keepPeaks_65 : decode cX8_keepPeaks 65 = .ok (.aload_n 0, 1) := by decide +kernel
theorem dX8_keepPeaks_66 : decode cX8_keepPeaks 66 = .ok (.getfield 190, 3) := by decide +kernel
theorem dX8_keepPeaks_69 : decode cX8_keepPeaks 69 = .ok (.if_icmp .ge 53, 3) := by decide +kernel
theorem dX8_keepPeaks_72 : decode cX8_keepPeaks 72 = .ok (.aload_n 0, 1) := by decide +kernel
theorem dX8_keepPeaks_73 : decode cX8_keepPeaks 73 = .ok (.getfield 63, 3) := by decide +kernel
theorem dX8_keepPeaks_76 : decode cX8_keepPeaks 76 = .ok (.iload_n 2, 1) := by decide +kernel
theorem dX8_keepPeaks_77 : decode cX8_keepPeaks 77 = .ok (.aload_n 0, 1) := by decide +kernel
theorem dX8_keepPeaks_78 : decode cX8_keepPeaks 78 = .ok (.getfield 63, 3) := by decide +kernel
theorem dX8_keepPeaks_81 : decode cX8_keepPeaks 81 = .ok (.iload_n 2, 1) := by decide +kernel
theorem dX8_keepPeaks_82 : decode cX8_keepPeaks 82 = .ok (.baload, 1) := by decide +kernel
theorem dX8_keepPeaks_83 : decode cX8_keepPeaks 83 = .ok (.ifCond .ne 27, 3) := by decide +kernel
theorem dX8_keepPeaks_86 : decode cX8_keepPeaks 86 = .ok (.iload_n 2, 1) := by decide +kernel
theorem dX8_keepPeaks_87 : decode cX8_keepPeaks 87 = .ok (.aload_n 0, 1) := by decide +kernel
theorem dX8_keepPeaks_88 : decode cX8_keepPeaks 88 = .ok (.getfield 57, 3) := by decide +kernel
theorem dX8_keepPeaks_91 : decode cX8_keepPeaks 91 = .ok (.iload_n 3, 1) := by decide +kernel
theorem dX8_keepPeaks_92 : decode cX8_keepPeaks 92 = .ok (.iaload, 1) := by decide +kernel
theorem dX8_keepPeaks_93 : decode cX8_keepPeaks 93 = .ok (.if_icmp .eq 17, 3) := by decide +kernel
theorem dX8_keepPeaks_96 : decode cX8_keepPeaks 96 = .ok (.aload_n 0, 1) := by decide +kernel
theorem dX8_keepPeaks_97 : decode cX8_keepPeaks 97 = .ok (.aload_n 0, 1) := by decide +kernel
theorem dX8_keepPeaks_98 : decode cX8_keepPeaks 98 = .ok (.getfield 57, 3) := by decide +kernel
theorem dX8_keepPeaks_101 : decode cX8_keepPeaks 101 = .ok (.iload_n 3, 1) := by decide +kernel
theorem dX8_keepPeaks_102 : decode cX8_keepPeaks 102 = .ok (.iaload, 1) := by decide +kernel
theorem dX8_keepPeaks_103 : decode cX8_keepPeaks 103 = .ok (.iload_n 2, 1) := by decide +kernel
theorem dX8_keepPeaks_104 : decode cX8_keepPeaks 104 = .ok (.invokevirtual 170, 3) := by decide +kernel
theorem dX8_keepPeaks_107 : decode cX8_keepPeaks 107 = .ok (.ifCond .eq 7, 3) := by decide +kernel
theorem dX8_keepPeaks_110 : decode cX8_keepPeaks 110 = .ok (.iconst 1, 1) := by decide +kernel
theorem dX8_keepPeaks_111 : decode cX8_keepPeaks 111 = .ok (.goto 4, 3) := by decide +kernel
theorem dX8_keepPeaks_114 : decode cX8_keepPeaks 114 = .ok (.iconst 0, 1) := by decide +kernel
theorem dX8_keepPeaks_115 : decode cX8_keepPeaks 115 = .ok (.bastore, 1) := by decide +kernel
theorem dX8_keepPeaks_116 : decode cX8_keepPeaks 116 = .ok (.iinc 3 1, 3) := by decide +kernel
theorem dX8_keepPeaks_119 : decode cX8_keepPeaks 119 = .ok (.goto (-60), 3) := by decide +kernel
theorem dX8_keepPeaks_122 : decode cX8_keepPeaks 122 = .ok (.iinc 2 1, 3) := by decide +kernel
theorem dX8_keepPeaks_125 : decode cX8_keepPeaks 125 = .ok (.goto (-91), 3) := by decide +kernel
theorem dX8_keepPeaks_128 : decode cX8_keepPeaks 128 = .ok (.aload_n 0, 1) := by decide +kernel
theorem dX8_keepPeaks_129 : decode cX8_keepPeaks 129 = .ok (.iconst 0, 1) := by decide +kernel
theorem dX8_keepPeaks_130 : decode cX8_keepPeaks 130 = .ok (.invokevirtual 283, 3) := by decide +kernel
theorem dX8_keepPeaks_133 : decode cX8_keepPeaks 133 = .ok (.ireturn, 1) := by decide +kernel
theorem dX8_ifLevel_0 : decode cX8_ifLevel 0 = .ok (.aload_n 0, 1) := by decide +kernel
theorem dX8_ifLevel_1 : decode cX8_ifLevel 1 = .ok (.aload_n 0, 1) := by decide +kernel
theorem dX8_ifLevel_2 : decode cX8_ifLevel 2 = .ok (.iload_n 1, 1) := by decide +kernel
theorem dX8_ifLevel_3 : decode cX8_ifLevel 3 = .ok (.invokevirtual 106, 3) := by decide +kernel
theorem dX8_ifLevel_6 : decode cX8_ifLevel 6 = .ok (.ifCond .ne 7, 3) := by decide +kernel
theorem dX8_ifLevel_9 : decode cX8_ifLevel 9 = .ok (.iconst 1, 1) := by decide +kernel
theorem dX8_ifLevel_10 : decode cX8_ifLevel 10 = .ok (.goto 27, 3) := by decide +kernel
theorem dX8_ifLevel_13 : decode cX8_ifLevel 13 = .ok (.iload_n 2, 1) := by decide +kernel
theorem dX8_ifLevel_14 : decode cX8_ifLevel 14 = .ok (.iconst 0, 1) := by decide +kernel
theorem dX8_ifLevel_15 : decode cX8_ifLevel 15 = .ok (.bipush 15, 2) := by decide +kernel
theorem dX8_ifLevel_17 : decode cX8_ifLevel 17 = .ok (.invokestatic 80, 3) := by decide +kernel
theorem dX8_ifLevel_20 : decode cX8_ifLevel 20 = .ok (.ifCond .eq 16, 3) := by decide +kernel
theorem dX8_ifLevel_23 : decode cX8_ifLevel 23 = .ok (.iload_n 3, 1) := by decide +kernel
theorem dX8_ifLevel_24 : decode cX8_ifLevel 24 = .ok (.iconst 2, 1) := by decide +kernel
theorem dX8_ifLevel_25 : decode cX8_ifLevel 25 = .ok (.iconst 4, 1) := by decide +kernel
theorem dX8_ifLevel_26 : decode cX8_ifLevel 26 = .ok (.invokestatic 80, 3) := by decide +kernel
theorem dX8_ifLevel_29 : decode cX8_ifLevel 29 = .ok (.ifCond .eq 7, 3) := by decide +kernel
theorem dX8_ifLevel_32 : decode cX8_ifLevel 32 = .ok (.iconst 0, 1) := by decide +kernel
theorem dX8_ifLevel_33 : decode cX8_ifLevel 33 = .ok (.goto 4, 3) := by decide +kernel
theorem dX8_ifLevel_36 : decode cX8_ifLevel 36 = .ok (.iconst 2, 1) := by decide +kernel
theorem dX8_ifLevel_37 : decode cX8_ifLevel 37 = .ok (.putfield 73, 3) := by decide +kernel
theorem dX8_ifLevel_40 : decode cX8_ifLevel 40 = .ok (.aload_n 0, 1) := by decide +kernel
theorem dX8_ifLevel_41 : decode cX8_ifLevel 41 = .ok (.getfield 73, 3) := by decide +kernel
theorem dX8_ifLevel_44 : decode cX8_ifLevel 44 = .ok (.ifCond .le 5, 3) := by decide +kernel
theorem dX8_ifLevel_47 : decode cX8_ifLevel 47 = .ok (.iconst 0, 1) := by decide +kernel
theorem dX8_ifLevel_48 : decode cX8_ifLevel 48 = .ok (.ireturn, 1) := by decide +kernel
theorem dX8_ifLevel_49 : decode cX8_ifLevel 49 = .ok (.aload_n 0, 1) := by decide +kernel
theorem dX8_ifLevel_50 : decode cX8_ifLevel 50 = .ok (.getfield 16, 3) := by decide +kernel
theorem dX8_ifLevel_53 : decode cX8_ifLevel 53 = .ok (.iload_n 1, 1) := by decide +kernel
theorem dX8_ifLevel_54 : decode cX8_ifLevel 54 = .ok (.iaload, 1) := by decide +kernel
theorem dX8_ifLevel_55 : decode cX8_ifLevel 55 = .ok (.istore 4, 2) := by decide +kernel
theorem dX8_ifLevel_57 : decode cX8_ifLevel 57 = .ok (.aload_n 0, 1) := by decide +kernel
theorem dX8_ifLevel_58 : decode cX8_ifLevel 58 = .ok (.getfield 16, 3) := by decide +kernel
theorem dX8_ifLevel_61 : decode cX8_ifLevel 61 = .ok (.iload_n 1, 1) := by decide +kernel
theorem dX8_ifLevel_62 : decode cX8_ifLevel 62 = .ok (.iload_n 2, 1) := by decide +kernel
theorem dX8_ifLevel_63 : decode cX8_ifLevel 63 = .ok (.iastore, 1) := by decide +kernel
theorem dX8_ifLevel_64 : decode cX8_ifLevel 64 = .ok (.aload_n 0, 1) := by decide +kernel
theorem dX8_ifLevel_65 : decode cX8_ifLevel 65 = .ok (.iconst 0, 1) := by decide +kernel
theorem dX8_ifLevel_66 : decode cX8_ifLevel 66 = .ok (.putfield 97, 3) := by decide +kernel
theorem dX8_ifLevel_69 : decode cX8_ifLevel 69 = .ok (.aload_n 0, 1) := by decide +kernel
theorem dX8_ifLevel_70 : decode cX8_ifLevel 70 = .ok (.iload_n 3, 1) := by decide +kernel
theorem dX8_ifLevel_71 : decode cX8_ifLevel 71 = .ok (.invokevirtual 215, 3) := by decide +kernel
theorem dX8_ifLevel_74 : decode cX8_ifLevel 74 = .ok (.istore 5, 2) := by decide +kernel
theorem dX8_ifLevel_76 : decode cX8_ifLevel 76 = .ok (.aload_n 0, 1) := by decide +kernel
theorem dX8_ifLevel_77 : decode cX8_ifLevel 77 = .ok (.getfield 16, 3) := by decide +kernel
theorem dX8_ifLevel_80 : decode cX8_ifLevel 80 = .ok (.iload_n 1, 1) := by decide +kernel
theorem dX8_ifLevel_81 : decode cX8_ifLevel 81 = .ok (.iload 4, 2) := by decide +kernel
theorem dX8_ifLevel_83 : decode cX8_ifLevel 83 = .ok (.iastore, 1) := by decide +kernel
theorem dX8_ifLevel_84 : decode cX8_ifLevel 84 = .ok (.aload_n 0, 1) := by decide +kernel
theorem dX8_ifLevel_85 : decode cX8_ifLevel 85 = .ok (.iconst 0, 1) := by decide +kernel
theorem dX8_ifLevel_86 : decode cX8_ifLevel 86 = .ok (.putfield 97, 3) := by decide +kernel
theorem dX8_ifLevel_89 : decode cX8_ifLevel 89 = .ok (.iload 5, 2) := by decide +kernel
theorem dX8_ifLevel_91 : decode cX8_ifLevel 91 = .ok (.ireturn, 1) := by decide +kernel
theorem dX8_mix_0 : decode cX8_mix 0 = .ok (.aload_n 0, 1) := by decide +kernel
theorem dX8_mix_1 : decode cX8_mix 1 = .ok (.ldc2_w 292, 3) := by decide +kernel
theorem dX8_mix_4 : decode cX8_mix 4 = .ok (.aload_n 0, 1) := by decide +kernel
theorem dX8_mix_5 : decode cX8_mix 5 = .ok (.getfield 294, 3) := by decide +kernel
theorem dX8_mix_8 : decode cX8_mix 8 = .ok (.lmul, 1) := by decide +kernel
theorem dX8_mix_9 : decode cX8_mix 9 = .ok (.lload_n 1, 1) := by decide +kernel
theorem dX8_mix_10 : decode cX8_mix 10 = .ok (.ladd, 1) := by decide +kernel
theorem dX8_mix_11 : decode cX8_mix 11 = .ok (.putfield 294, 3) := by decide +kernel
theorem dX8_mix_14 : decode cX8_mix 14 = .ok (.return_, 1) := by decide +kernel
theorem dX8_digest_0 : decode cX8_digest 0 = .ok (.aload_n 0, 1) := by decide +kernel
theorem dX8_digest_1 : decode cX8_digest 1 = .ok (.iconst 0, 1) := by decide +kernel
theorem dX8_digest_2 : decode cX8_digest 2 = .ok (.putfield 73, 3) := by decide +kernel
theorem dX8_digest_5 : decode cX8_digest 5 = .ok (.aload_n 0, 1) := by decide +kernel
theorem dX8_digest_6 : decode cX8_digest 6 = .ok (.ldc2_w 298, 3) := by decide +kernel
theorem dX8_digest_9 : decode cX8_digest 9 = .ok (.putfield 294, 3) := by decide +kernel
theorem dX8_digest_12 : decode cX8_digest 12 = .ok (.aload_n 0, 1) := by decide +kernel
theorem dX8_digest_13 : decode cX8_digest 13 = .ok (.aload_n 0, 1) := by decide +kernel
theorem dX8_digest_14 : decode cX8_digest 14 = .ok (.getfield 84, 3) := by decide +kernel
theorem dX8_digest_17 : decode cX8_digest 17 = .ok (.ifCond .eq 7, 3) := by decide +kernel
theorem dX8_digest_20 : decode cX8_digest 20 = .ok (.lconst 1, 1) := by decide +kernel
theorem dX8_digest_21 : decode cX8_digest 21 = .ok (.goto 4, 3) := by decide +kernel
theorem dX8_digest_24 : decode cX8_digest 24 = .ok (.lconst 0, 1) := by decide +kernel
theorem dX8_digest_25 : decode cX8_digest 25 = .ok (.invokevirtual 300, 3) := by decide +kernel
theorem dX8_digest_28 : decode cX8_digest 28 = .ok (.aload_n 0, 1) := by decide +kernel
theorem dX8_digest_29 : decode cX8_digest 29 = .ok (.aload_n 0, 1) := by decide +kernel
theorem dX8_digest_30 : decode cX8_digest 30 = .ok (.getfield 123, 3) := by decide +kernel
theorem dX8_digest_33 : decode cX8_digest 33 = .ok (.ifCond .eq 7, 3) := by decide +kernel
theorem dX8_digest_36 : decode cX8_digest 36 = .ok (.lconst 1, 1) := by decide +kernel
theorem dX8_digest_37 : decode cX8_digest 37 = .ok (.goto 4, 3) := by decide +kernel
theorem dX8_digest_40 : decode cX8_digest 40 = .ok (.lconst 0, 1) := by decide +kernel
theorem dX8_digest_41 : decode cX8_digest 41 = .ok (.invokevirtual 300, 3) := by decide +kernel
theorem dX8_digest_44 : decode cX8_digest 44 = .ok (.iconst 0, 1) := by decide +kernel
theorem dX8_digest_45 : decode cX8_digest 45 = .ok (.istore_n 1, 1) := by decide +kernel
theorem dX8_digest_46 : decode cX8_digest 46 = .ok (.iload_n 1, 1) := by decide +kernel
theorem dX8_digest_47 : decode cX8_digest 47 = .ok (.bipush 8, 2) := by decide +kernel
theorem dX8_digest_49 : decode cX8_digest 49 = .ok (.if_icmp .ge 19, 3) := by decide +kernel
theorem dX8_digest_52 : decode cX8_digest 52 = .ok (.aload_n 0, 1) := by decide +kernel
theorem dX8_digest_53 : decode cX8_digest 53 = .ok (.aload_n 0, 1) := by decide +kernel
theorem dX8_digest_54 : decode cX8_digest 54 = .ok (.iload_n 1, 1) := by decide +kernel
theorem dX8_digest_55 : decode cX8_digest 55 = .ok (.invokevirtual 215, 3) := by decide +kernel
theorem dX8_digest_58 : decode cX8_digest 58 = .ok (.i2l, 1) := by decide +kernel
theorem dX8_digest_59 : decode cX8_digest 59 = .ok (.invokevirtual 300, 3) := by decide +kernel
theorem dX8_digest_62 : decode cX8_digest 62 = .ok (.iinc 1 1, 3) := by decide +kernel
theorem dX8_digest_65 : decode cX8_digest 65 = .ok (.goto (-19), 3) := by decide +kernel
theorem dX8_digest_68 : decode cX8_digest 68 = .ok (.iconst 0, 1) := by decide +kernel
theorem dX8_digest_69 : decode cX8_digest 69 = .ok (.istore_n 1, 1) := by decide +kernel
theorem dX8_digest_70 : decode cX8_digest 70 = .ok (.iload_n 1, 1) := by decide +kernel
theorem dX8_digest_71 : decode cX8_digest 71 = .ok (.aload_n 0, 1) := by decide +kernel
theorem dX8_digest_72 : decode cX8_digest 72 = .ok (.invokevirtual 76, 3) := by decide +kernel
theorem dX8_digest_75 : decode cX8_digest 75 = .ok (.if_icmp .ge 42, 3) := by decide +kernel
theorem dX8_digest_78 : decode cX8_digest 78 = .ok (.aload_n 0, 1) := by decide +kernel
theorem dX8_digest_79 : decode cX8_digest 79 = .ok (.aload_n 0, 1) := by decide +kernel
theorem dX8_digest_80 : decode cX8_digest 80 = .ok (.getfield 16, 3) := by decide +kernel
theorem dX8_digest_83 : decode cX8_digest 83 = .ok (.iload_n 1, 1) := by decide +kernel
theorem dX8_digest_84 : decode cX8_digest 84 = .ok (.iaload, 1) := by decide +kernel
theorem dX8_digest_85 : decode cX8_digest 85 = .ok (.i2l, 1) := by decide +kernel
theorem dX8_digest_86 : decode cX8_digest 86 = .ok (.invokevirtual 300, 3) := by decide +kernel
theorem dX8_digest_89 : decode cX8_digest 89 = .ok (.aload_n 0, 1) := by decide +kernel
theorem dX8_digest_90 : decode cX8_digest 90 = .ok (.aload_n 0, 1) := by decide +kernel
theorem dX8_digest_91 : decode cX8_digest 91 = .ok (.getfield 20, 3) := by decide +kernel
theorem dX8_digest_94 : decode cX8_digest 94 = .ok (.iload_n 1, 1) := by decide +kernel
theorem dX8_digest_95 : decode cX8_digest 95 = .ok (.iaload, 1) := by decide +kernel
theorem dX8_digest_96 : decode cX8_digest 96 = .ok (.i2l, 1) := by decide +kernel
theorem dX8_digest_97 : decode cX8_digest 97 = .ok (.invokevirtual 300, 3) := by decide +kernel
theorem dX8_digest_100 : decode cX8_digest 100 = .ok (.aload_n 0, 1) := by decide +kernel
theorem dX8_digest_101 : decode cX8_digest 101 = .ok (.aload_n 0, 1) := by decide +kernel
theorem dX8_digest_102 : decode cX8_digest 102 = .ok (.getfield 51, 3) := by decide +kernel
theorem dX8_digest_105 : decode cX8_digest 105 = .ok (.iload_n 1, 1) := by decide +kernel
theorem dX8_digest_106 : decode cX8_digest 106 = .ok (.iaload, 1) := by decide +kernel
theorem dX8_digest_107 : decode cX8_digest 107 = .ok (.i2l, 1) := by decide +kernel
theorem dX8_digest_108 : decode cX8_digest 108 = .ok (.invokevirtual 300, 3) := by decide +kernel
theorem dX8_digest_111 : decode cX8_digest 111 = .ok (.iinc 1 1, 3) := by decide +kernel
theorem dX8_digest_114 : decode cX8_digest 114 = .ok (.goto (-44), 3) := by decide +kernel
theorem dX8_digest_117 : decode cX8_digest 117 = .ok (.iconst 0, 1) := by decide +kernel
theorem dX8_digest_118 : decode cX8_digest 118 = .ok (.istore_n 1, 1) := by decide +kernel
theorem dX8_digest_119 : decode cX8_digest 119 = .ok (.iload_n 1, 1) := by decide +kernel
theorem dX8_digest_120 : decode cX8_digest 120 = .ok (.bipush 12, 2) := by decide +kernel
theorem dX8_digest_122 : decode cX8_digest 122 = .ok (.aload_n 0, 1) := by decide +kernel
theorem dX8_digest_123 : decode cX8_digest 123 = .ok (.getfield 116, 3) := by decide +kernel
theorem dX8_digest_126 : decode cX8_digest 126 = .ok (.imul, 1) := by decide +kernel
theorem dX8_digest_127 : decode cX8_digest 127 = .ok (.if_icmp .ge 26, 3) := by decide +kernel
theorem dX8_digest_130 : decode cX8_digest 130 = .ok (.aload_n 0, 1) := by decide +kernel
theorem dX8_digest_131 : decode cX8_digest 131 = .ok (.aload_n 0, 1) := by decide +kernel
theorem dX8_digest_132 : decode cX8_digest 132 = .ok (.iload_n 1, 1) := by decide +kernel
theorem dX8_digest_133 : decode cX8_digest 133 = .ok (.bipush 12, 2) := by decide +kernel
theorem dX8_digest_135 : decode cX8_digest 135 = .ok (.idiv, 1) := by decide +kernel
theorem dX8_digest_136 : decode cX8_digest 136 = .ok (.iload_n 1, 1) := by decide +kernel
theorem dX8_digest_137 : decode cX8_digest 137 = .ok (.bipush 12, 2) := by decide +kernel
theorem dX8_digest_139 : decode cX8_digest 139 = .ok (.irem, 1) := by decide +kernel
theorem dX8_digest_140 : decode cX8_digest 140 = .ok (.invokevirtual 250, 3) := by decide +kernel
theorem dX8_digest_143 : decode cX8_digest 143 = .ok (.i2l, 1) := by decide +kernel
theorem dX8_digest_144 : decode cX8_digest 144 = .ok (.invokevirtual 300, 3) := by decide +kernel
theorem dX8_digest_147 : decode cX8_digest 147 = .ok (.iinc 1 1, 3) := by decide +kernel
theorem dX8_digest_150 : decode cX8_digest 150 = .ok (.goto (-31), 3) := by decide +kernel
theorem dX8_digest_153 : decode cX8_digest 153 = .ok (.iconst 0, 1) := by decide +kernel
theorem dX8_digest_154 : decode cX8_digest 154 = .ok (.istore_n 1, 1) := by decide +kernel
theorem dX8_digest_155 : decode cX8_digest 155 = .ok (.iload_n 1, 1) := by decide +kernel
theorem dX8_digest_156 : decode cX8_digest 156 = .ok (.aload_n 0, 1) := by decide +kernel
theorem dX8_digest_157 : decode cX8_digest 157 = .ok (.getfield 190, 3) := by decide +kernel
theorem dX8_digest_160 : decode cX8_digest 160 = .ok (.if_icmp .ge 20, 3) := by decide +kernel
theorem dX8_digest_163 : decode cX8_digest 163 = .ok (.aload_n 0, 1) := by decide +kernel
theorem dX8_digest_164 : decode cX8_digest 164 = .ok (.aload_n 0, 1) := by decide +kernel
theorem dX8_digest_165 : decode cX8_digest 165 = .ok (.getfield 57, 3) := by decide +kernel
theorem dX8_digest_168 : decode cX8_digest 168 = .ok (.iload_n 1, 1) := by decide +kernel
theorem dX8_digest_169 : decode cX8_digest 169 = .ok (.iaload, 1) := by decide +kernel
theorem dX8_digest_170 : decode cX8_digest 170 = .ok (.i2l, 1) := by decide +kernel
theorem dX8_digest_171 : decode cX8_digest 171 = .ok (.invokevirtual 300, 3) := by decide +kernel
theorem dX8_digest_174 : decode cX8_digest 174 = .ok (.iinc 1 1, 3) := by decide +kernel
theorem dX8_digest_177 : decode cX8_digest 177 = .ok (.goto (-22), 3) := by decide +kernel
theorem dX8_digest_180 : decode cX8_digest 180 = .ok (.aload_n 0, 1) := by decide +kernel
theorem dX8_digest_181 : decode cX8_digest 181 = .ok (.aload_n 0, 1) := by decide +kernel
theorem dX8_digest_182 : decode cX8_digest 182 = .ok (.iconst 1, 1) := by decide +kernel
theorem dX8_digest_183 : decode cX8_digest 183 = .ok (.iconst 3, 1) := by decide +kernel
theorem dX8_digest_184 : decode cX8_digest 184 = .ok (.iconst 1, 1) := by decide +kernel
theorem dX8_digest_185 : decode cX8_digest 185 = .ok (.invokevirtual 276, 3) := by decide +kernel
theorem dX8_digest_188 : decode cX8_digest 188 = .ok (.i2l, 1) := by decide +kernel
theorem dX8_digest_189 : decode cX8_digest 189 = .ok (.invokevirtual 300, 3) := by decide +kernel
theorem dX8_digest_192 : decode cX8_digest 192 = .ok (.aload_n 0, 1) := by decide +kernel
theorem dX8_digest_193 : decode cX8_digest 193 = .ok (.aload_n 0, 1) := by decide +kernel
theorem dX8_digest_194 : decode cX8_digest 194 = .ok (.bipush 6, 2) := by decide +kernel
theorem dX8_digest_196 : decode cX8_digest 196 = .ok (.iconst 4, 1) := by decide +kernel
theorem dX8_digest_197 : decode cX8_digest 197 = .ok (.iconst 3, 1) := by decide +kernel
theorem dX8_digest_198 : decode cX8_digest 198 = .ok (.invokevirtual 276, 3) := by decide +kernel
theorem dX8_digest_201 : decode cX8_digest 201 = .ok (.i2l, 1) := by decide +kernel
theorem dX8_digest_202 : decode cX8_digest 202 = .ok (.invokevirtual 300, 3) := by decide +kernel
theorem dX8_digest_205 : decode cX8_digest 205 = .ok (.aload_n 0, 1) := by decide +kernel
theorem dX8_digest_206 : decode cX8_digest 206 = .ok (.aload_n 0, 1) := by decide +kernel
theorem dX8_digest_207 : decode cX8_digest 207 = .ok (.getfield 126, 3) := by decide +kernel
theorem dX8_digest_210 : decode cX8_digest 210 = .ok (.i2l, 1) := by decide +kernel
theorem dX8_digest_211 : decode cX8_digest 211 = .ok (.invokevirtual 300, 3) := by decide +kernel
theorem dX8_digest_214 : decode cX8_digest 214 = .ok (.iconst 0, 1) := by decide +kernel
theorem dX8_digest_215 : decode cX8_digest 215 = .ok (.istore_n 1, 1) := by decide +kernel
theorem dX8_digest_216 : decode cX8_digest 216 = .ok (.iload_n 1, 1) := by decide +kernel
theorem dX8_digest_217 : decode cX8_digest 217 = .ok (.aload_n 0, 1) := by decide +kernel
theorem dX8_digest_218 : decode cX8_digest 218 = .ok (.getfield 126, 3) := by decide +kernel
theorem dX8_digest_221 : decode cX8_digest 221 = .ok (.if_icmp .ge 20, 3) := by decide +kernel
theorem dX8_digest_224 : decode cX8_digest 224 = .ok (.aload_n 0, 1) := by decide +kernel
theorem dX8_digest_225 : decode cX8_digest 225 = .ok (.aload_n 0, 1) := by decide +kernel
theorem dX8_digest_226 : decode cX8_digest 226 = .ok (.getfield 32, 3) := by decide +kernel
theorem dX8_digest_229 : decode cX8_digest 229 = .ok (.iload_n 1, 1) := by decide +kernel
theorem dX8_digest_230 : decode cX8_digest 230 = .ok (.iaload, 1) := by decide +kernel
theorem dX8_digest_231 : decode cX8_digest 231 = .ok (.i2l, 1) := by decide +kernel
theorem dX8_digest_232 : decode cX8_digest 232 = .ok (.invokevirtual 300, 3) := by decide +kernel
theorem dX8_digest_235 : decode cX8_digest 235 = .ok (.iinc 1 1, 3) := by decide +kernel
theorem dX8_digest_238 : decode cX8_digest 238 = .ok (.goto (-22), 3) := by decide +kernel
theorem dX8_digest_241 : decode cX8_digest 241 = .ok (.aload_n 0, 1) := by decide +kernel
theorem dX8_digest_242 : decode cX8_digest 242 = .ok (.getfield 294, 3) := by decide +kernel
theorem dX8_digest_245 : decode cX8_digest 245 = .ok (.lreturn, 1) := by decide +kernel
