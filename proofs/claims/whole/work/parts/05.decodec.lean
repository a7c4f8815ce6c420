theorem dX9_tested_33 : decode cX9_tested 33 = .ok (.ireturn, 1) := by decide +kernel
theorem dX9_size_0 : decode cX9_size 0 = .ok (.iload_n 0, 1) := by decide +kernel
theorem dX9_size_1 : decode cX9_size 1 = .ok (.bipush 15, 2) := by decide +kernel
theorem dX9_size_3 : decode cX9_size 3 = .ok (.iand, 1) := by decide +kernel
theorem dX9_size_4 : decode cX9_size 4 = .ok (.istore_n 1, 1) := by decide +kernel
theorem dX9_size_5 : decode cX9_size 5 = .ok (.iload_n 0, 1) := by decide +kernel
theorem dX9_size_6 : decode cX9_size 6 = .ok (.iconst 4, 1) := by decide +kernel
theorem dX9_size_7 : decode cX9_size 7 = .ok (.ishr, 1) := by decide +kernel
theorem dX9_size_8 : decode cX9_size 8 = .ok (.iconst 1, 1) := by decide +kernel
theorem dX9_size_9 : decode cX9_size 9 = .ok (.iand, 1) := by decide +kernel
theorem dX9_size_10 : decode cX9_size 10 = .ok (.iconst 1, 1) := by decide +kernel
theorem dX9_size_11 : decode cX9_size 11 = .ok (.if_icmp .ne 7, 3) := by decide +kernel
theorem dX9_size_14 : decode cX9_size 14 = .ok (.iconst 1, 1) := by decide +kernel
theorem dX9_size_15 : decode cX9_size 15 = .ok (.goto 4, 3) := by decide +kernel
theorem dX9_size_18 : decode cX9_size 18 = .ok (.iconst 0, 1) := by decide +kernel
theorem dX9_size_19 : decode cX9_size 19 = .ok (.istore_n 2, 1) := by decide +kernel
theorem dX9_size_20 : decode cX9_size 20 = .ok (.iload_n 1, 1) := by decide +kernel
theorem dX9_size_21 : decode cX9_size 21 = .ok (.ifCond .ne 35, 3) := by decide +kernel
theorem dX9_size_24 : decode cX9_size 24 = .ok (.iload_n 0, 1) := by decide +kernel
theorem dX9_size_25 : decode cX9_size 25 = .ok (.bipush 32, 2) := by decide +kernel
theorem dX9_size_27 : decode cX9_size 27 = .ok (.if_icmp .ne 7, 3) := by decide +kernel
theorem dX9_size_30 : decode cX9_size 30 = .ok (.iconst 3, 1) := by decide +kernel
theorem dX9_size_31 : decode cX9_size 31 = .ok (.goto 24, 3) := by decide +kernel
theorem dX9_size_34 : decode cX9_size 34 = .ok (.iload_n 0, 1) := by decide +kernel
theorem dX9_size_35 : decode cX9_size 35 = .ok (.ifCond .eq 15, 3) := by decide +kernel
theorem dX9_size_38 : decode cX9_size 38 = .ok (.iload_n 0, 1) := by decide +kernel
theorem dX9_size_39 : decode cX9_size 39 = .ok (.bipush 64, 2) := by decide +kernel
theorem dX9_size_41 : decode cX9_size 41 = .ok (.if_icmp .eq 9, 3) := by decide +kernel
theorem dX9_size_44 : decode cX9_size 44 = .ok (.iload_n 0, 1) := by decide +kernel
theorem dX9_size_45 : decode cX9_size 45 = .ok (.bipush 96, 2) := by decide +kernel
theorem dX9_size_47 : decode cX9_size 47 = .ok (.if_icmp .ne 7, 3) := by decide +kernel
theorem dX9_size_50 : decode cX9_size 50 = .ok (.iconst 1, 1) := by decide +kernel
theorem dX9_size_51 : decode cX9_size 51 = .ok (.goto 4, 3) := by decide +kernel
theorem dX9_size_54 : decode cX9_size 54 = .ok (.iconst 2, 1) := by decide +kernel
theorem dX9_size_55 : decode cX9_size 55 = .ok (.ireturn, 1) := by decide +kernel
theorem dX9_size_56 : decode cX9_size 56 = .ok (.iload_n 1, 1) := by decide +kernel
theorem dX9_size_57 : decode cX9_size 57 = .ok (.iconst 3, 1) := by decide +kernel
theorem dX9_size_58 : decode cX9_size 58 = .ok (.if_icmp .eq 21, 3) := by decide +kernel
theorem dX9_size_61 : decode cX9_size 61 = .ok (.iload_n 1, 1) := by decide +kernel
theorem dX9_size_62 : decode cX9_size 62 = .ok (.bipush 8, 2) := by decide +kernel
theorem dX9_size_64 : decode cX9_size 64 = .ok (.if_icmp .eq 15, 3) := by decide +kernel
theorem dX9_size_67 : decode cX9_size 67 = .ok (.iload_n 1, 1) := by decide +kernel
theorem dX9_size_68 : decode cX9_size 68 = .ok (.bipush 10, 2) := by decide +kernel
theorem dX9_size_70 : decode cX9_size 70 = .ok (.if_icmp .eq 9, 3) := by decide +kernel
theorem dX9_size_73 : decode cX9_size 73 = .ok (.iload_n 1, 1) := by decide +kernel
theorem dX9_size_74 : decode cX9_size 74 = .ok (.bipush 11, 2) := by decide +kernel
theorem dX9_size_76 : decode cX9_size 76 = .ok (.if_icmp .ne 5, 3) := by decide +kernel
theorem dX9_size_79 : decode cX9_size 79 = .ok (.iconst 1, 1) := by decide +kernel
theorem dX9_size_80 : decode cX9_size 80 = .ok (.ireturn, 1) := by decide +kernel
theorem dX9_size_81 : decode cX9_size 81 = .ok (.iload_n 1, 1) := by decide +kernel
theorem dX9_size_82 : decode cX9_size 82 = .ok (.bipush 11, 2) := by decide +kernel
theorem dX9_size_84 : decode cX9_size 84 = .ok (.if_icmp .gt 13, 3) := by decide +kernel
theorem dX9_size_87 : decode cX9_size 87 = .ok (.iload_n 1, 1) := by decide +kernel
theorem dX9_size_88 : decode cX9_size 88 = .ok (.bipush 9, 2) := by decide +kernel
theorem dX9_size_90 : decode cX9_size 90 = .ok (.if_icmp .ne 11, 3) := by decide +kernel
theorem dX9_size_93 : decode cX9_size 93 = .ok (.iload_n 2, 1) := by decide +kernel
theorem dX9_size_94 : decode cX9_size 94 = .ok (.ifCond .eq 7, 3) := by decide +kernel
theorem dX9_size_97 : decode cX9_size 97 = .ok (.iconst 3, 1) := by decide +kernel
theorem dX9_size_98 : decode cX9_size 98 = .ok (.goto 4, 3) := by decide +kernel
theorem dX9_size_101 : decode cX9_size 101 = .ok (.iconst 2, 1) := by decide +kernel
theorem dX9_size_102 : decode cX9_size 102 = .ok (.ireturn, 1) := by decide +kernel
theorem dX9_indexed_0 : decode cX9_indexed 0 = .ok (.iload_n 1, 1) := by decide +kernel
theorem dX9_indexed_1 : decode cX9_indexed 1 = .ok (.iload_n 2, 1) := by decide +kernel
theorem dX9_indexed_2 : decode cX9_indexed 2 = .ok (.iadd, 1) := by decide +kernel
theorem dX9_indexed_3 : decode cX9_indexed 3 = .ok (.ldc 36, 2) := by decide +kernel
theorem dX9_indexed_5 : decode cX9_indexed 5 = .ok (.iand, 1) := by decide +kernel
theorem dX9_indexed_6 : decode cX9_indexed 6 = .ok (.istore_n 3, 1) := by decide +kernel
theorem dX9_indexed_7 : decode cX9_indexed 7 = .ok (.aload_n 0, 1) := by decide +kernel
theorem dX9_indexed_8 : decode cX9_indexed 8 = .ok (.iload_n 3, 1) := by decide +kernel
theorem dX9_indexed_9 : decode cX9_indexed 9 = .ok (.bipush 8, 2) := by decide +kernel
theorem dX9_indexed_11 : decode cX9_indexed 11 = .ok (.ishr, 1) := by decide +kernel
theorem dX9_indexed_12 : decode cX9_indexed 12 = .ok (.iload_n 1, 1) := by decide +kernel
theorem dX9_indexed_13 : decode cX9_indexed 13 = .ok (.bipush 8, 2) := by decide +kernel
theorem dX9_indexed_15 : decode cX9_indexed 15 = .ok (.ishr, 1) := by decide +kernel
theorem dX9_indexed_16 : decode cX9_indexed 16 = .ok (.if_icmp .eq 7, 3) := by decide +kernel
theorem dX9_indexed_19 : decode cX9_indexed 19 = .ok (.iconst 1, 1) := by decide +kernel
theorem dX9_indexed_20 : decode cX9_indexed 20 = .ok (.goto 4, 3) := by decide +kernel
theorem dX9_indexed_23 : decode cX9_indexed 23 = .ok (.iconst 0, 1) := by decide +kernel
theorem dX9_indexed_24 : decode cX9_indexed 24 = .ok (.putfield 114, 3) := by decide +kernel
theorem dX9_indexed_27 : decode cX9_indexed 27 = .ok (.iload_n 3, 1) := by decide +kernel
theorem dX9_indexed_28 : decode cX9_indexed 28 = .ok (.ireturn, 1) := by decide +kernel
theorem dX9_address_0 : decode cX9_address 0 = .ok (.aload_n 0, 1) := by decide +kernel
theorem dX9_address_1 : decode cX9_address 1 = .ok (.iconst 0, 1) := by decide +kernel
theorem dX9_address_2 : decode cX9_address 2 = .ok (.putfield 114, 3) := by decide +kernel
theorem dX9_address_5 : decode cX9_address 5 = .ok (.iload_n 1, 1) := by decide +kernel
theorem dX9_address_6 : decode cX9_address 6 = .ok (.tableswitch 153 1 8 #[46, 51, 67, 83, 88, 103, 118, 134], 46) := by decide +kernel
theorem dX9_address_52 : decode cX9_address 52 = .ok (.aload_n 0, 1) := by decide +kernel
theorem dX9_address_53 : decode cX9_address 53 = .ok (.getfield 117, 3) := by decide +kernel
theorem dX9_address_56 : decode cX9_address 56 = .ok (.ireturn, 1) := by decide +kernel
theorem dX9_address_57 : decode cX9_address 57 = .ok (.aload_n 0, 1) := by decide +kernel
theorem dX9_address_58 : decode cX9_address 58 = .ok (.getfield 117, 3) := by decide +kernel
theorem dX9_address_61 : decode cX9_address 61 = .ok (.aload_n 0, 1) := by decide +kernel
theorem dX9_address_62 : decode cX9_address 62 = .ok (.getfield 14, 3) := by decide +kernel
theorem dX9_address_65 : decode cX9_address 65 = .ok (.iconst 1, 1) := by decide +kernel
theorem dX9_address_66 : decode cX9_address 66 = .ok (.iaload, 1) := by decide +kernel
theorem dX9_address_67 : decode cX9_address 67 = .ok (.iadd, 1) := by decide +kernel
theorem dX9_address_68 : decode cX9_address 68 = .ok (.sipush 255, 3) := by decide +kernel
theorem dX9_address_71 : decode cX9_address 71 = .ok (.iand, 1) := by decide +kernel
theorem dX9_address_72 : decode cX9_address 72 = .ok (.ireturn, 1) := by decide +kernel
theorem dX9_address_73 : decode cX9_address 73 = .ok (.aload_n 0, 1) := by decide +kernel
theorem dX9_address_74 : decode cX9_address 74 = .ok (.getfield 117, 3) := by decide +kernel
theorem dX9_address_77 : decode cX9_address 77 = .ok (.aload_n 0, 1) := by decide +kernel
theorem dX9_address_78 : decode cX9_address 78 = .ok (.getfield 14, 3) := by decide +kernel
theorem dX9_address_81 : decode cX9_address 81 = .ok (.iconst 2, 1) := by decide +kernel
theorem dX9_address_82 : decode cX9_address 82 = .ok (.iaload, 1) := by decide +kernel
theorem dX9_address_83 : decode cX9_address 83 = .ok (.iadd, 1) := by decide +kernel
theorem dX9_address_84 : decode cX9_address 84 = .ok (.sipush 255, 3) := by decide +kernel
theorem dX9_address_87 : decode cX9_address 87 = .ok (.iand, 1) := by decide +kernel
theorem dX9_address_88 : decode cX9_address 88 = .ok (.ireturn, 1) := by decide +kernel
theorem dX9_address_89 : decode cX9_address 89 = .ok (.aload_n 0, 1) := by decide +kernel
theorem dX9_address_90 : decode cX9_address 90 = .ok (.getfield 120, 3) := by decide +kernel
theorem dX9_address_93 : decode cX9_address 93 = .ok (.ireturn, 1) := by decide +kernel
theorem dX9_address_94 : decode cX9_address 94 = .ok (.aload_n 0, 1) := by decide +kernel
theorem dX9_address_95 : decode cX9_address 95 = .ok (.aload_n 0, 1) := by decide +kernel
theorem dX9_address_96 : decode cX9_address 96 = .ok (.getfield 120, 3) := by decide +kernel
theorem dX9_address_99 : decode cX9_address 99 = .ok (.aload_n 0, 1) := by decide +kernel
theorem dX9_address_100 : decode cX9_address 100 = .ok (.getfield 14, 3) := by decide +kernel
theorem dX9_address_103 : decode cX9_address 103 = .ok (.iconst 1, 1) := by decide +kernel
theorem dX9_address_104 : decode cX9_address 104 = .ok (.iaload, 1) := by decide +kernel
theorem dX9_address_105 : decode cX9_address 105 = .ok (.invokevirtual 123, 3) := by decide +kernel
theorem dX9_address_108 : decode cX9_address 108 = .ok (.ireturn, 1) := by decide +kernel
theorem dX9_address_109 : decode cX9_address 109 = .ok (.aload_n 0, 1) := by decide +kernel
theorem dX9_address_110 : decode cX9_address 110 = .ok (.aload_n 0, 1) := by decide +kernel
theorem dX9_address_111 : decode cX9_address 111 = .ok (.getfield 120, 3) := by decide +kernel
theorem dX9_address_114 : decode cX9_address 114 = .ok (.aload_n 0, 1) := by decide +kernel
theorem dX9_address_115 : decode cX9_address 115 = .ok (.getfield 14, 3) := by decide +kernel
theorem dX9_address_118 : decode cX9_address 118 = .ok (.iconst 2, 1) := by decide +kernel
theorem dX9_address_119 : decode cX9_address 119 = .ok (.iaload, 1) := by decide +kernel
theorem dX9_address_120 : decode cX9_address 120 = .ok (.invokevirtual 123, 3) := by decide +kernel
theorem dX9_address_123 : decode cX9_address 123 = .ok (.ireturn, 1) := by decide +kernel
theorem dX9_address_124 : decode cX9_address 124 = .ok (.aload_n 0, 1) := by decide +kernel
theorem dX9_address_125 : decode cX9_address 125 = .ok (.aload_n 0, 1) := by decide +kernel
theorem dX9_address_126 : decode cX9_address 126 = .ok (.getfield 117, 3) := by decide +kernel
theorem dX9_address_129 : decode cX9_address 129 = .ok (.aload_n 0, 1) := by decide +kernel
theorem dX9_address_130 : decode cX9_address 130 = .ok (.getfield 14, 3) := by decide +kernel
theorem dX9_address_133 : decode cX9_address 133 = .ok (.iconst 1, 1) := by decide +kernel
theorem dX9_address_134 : decode cX9_address 134 = .ok (.iaload, 1) := by decide +kernel
theorem dX9_address_135 : decode cX9_address 135 = .ok (.iadd, 1) := by decide +kernel
theorem dX9_address_136 : decode cX9_address 136 = .ok (.invokevirtual 127, 3) := by decide +kernel
theorem dX9_address_139 : decode cX9_address 139 = .ok (.ireturn, 1) := by decide +kernel
theorem dX9_address_140 : decode cX9_address 140 = .ok (.aload_n 0, 1) := by decide +kernel
theorem dX9_address_141 : decode cX9_address 141 = .ok (.aload_n 0, 1) := by decide +kernel
theorem dX9_address_142 : decode cX9_address 142 = .ok (.aload_n 0, 1) := by decide +kernel
theorem dX9_address_143 : decode cX9_address 143 = .ok (.getfield 117, 3) := by decide +kernel
theorem dX9_address_146 : decode cX9_address 146 = .ok (.invokevirtual 127, 3) := by decide +kernel
theorem dX9_address_149 : decode cX9_address 149 = .ok (.aload_n 0, 1) := by decide +kernel
theorem dX9_address_150 : decode cX9_address 150 = .ok (.getfield 14, 3) := by decide +kernel
theorem dX9_address_153 : decode cX9_address 153 = .ok (.iconst 2, 1) := by decide +kernel
theorem dX9_address_154 : decode cX9_address 154 = .ok (.iaload, 1) := by decide +kernel
theorem dX9_address_155 : decode cX9_address 155 = .ok (.invokevirtual 123, 3) := by decide +kernel
theorem dX9_address_158 : decode cX9_address 158 = .ok (.ireturn, 1) := by decide +kernel
theorem dX9_address_159 : decode cX9_address 159 = .ok (.aload_n 0, 1) := by decide +kernel
theorem dX9_address_160 : decode cX9_address 160 = .ok (.aload_n 0, 1) := by decide +kernel
theorem dX9_address_161 : decode cX9_address 161 = .ok (.getfield 117, 3) := by decide +kernel
theorem dX9_address_164 : decode cX9_address 164 = .ok (.invokevirtual 127, 3) := by decide +kernel
theorem dX9_address_167 : decode cX9_address 167 = .ok (.ireturn, 1) := by decide +kernel
theorem dX9_time_0 : decode cX9_time 0 = .ok (.iload_n 0, 1) := by decide +kernel
theorem dX9_time_1 : decode cX9_time 1 = .ok (.ifCond .ne 7, 3) := by decide +kernel
theorem dX9_time_4 : decode cX9_time 4 = .ok (.iconst 2, 1) := by decide +kernel
theorem dX9_time_5 : decode cX9_time 5 = .ok (.goto 40, 3) := by decide +kernel
theorem dX9_time_8 : decode cX9_time 8 = .ok (.iload_n 0, 1) := by decide +kernel
theorem dX9_time_9 : decode cX9_time 9 = .ok (.iconst 1, 1) := by decide +kernel
theorem dX9_time_10 : decode cX9_time 10 = .ok (.if_icmp .ne 7, 3) := by decide +kernel
theorem dX9_time_13 : decode cX9_time 13 = .ok (.iconst 3, 1) := by decide +kernel
theorem dX9_time_14 : decode cX9_time 14 = .ok (.goto 31, 3) := by decide +kernel
theorem dX9_time_17 : decode cX9_time 17 = .ok (.iload_n 0, 1) := by decide +kernel
theorem dX9_time_18 : decode cX9_time 18 = .ok (.bipush 7, 2) := by decide +kernel
theorem dX9_time_20 : decode cX9_time 20 = .ok (.if_icmp .ne 8, 3) := by decide +kernel
theorem dX9_time_23 : decode cX9_time 23 = .ok (.bipush 6, 2) := by decide +kernel
theorem dX9_time_25 : decode cX9_time 25 = .ok (.goto 20, 3) := by decide +kernel
theorem dX9_time_28 : decode cX9_time 28 = .ok (.iload_n 0, 1) := by decide +kernel
theorem dX9_time_29 : decode cX9_time 29 = .ok (.bipush 8, 2) := by decide +kernel
theorem dX9_time_31 : decode cX9_time 31 = .ok (.if_icmp .eq 9, 3) := by decide +kernel
theorem dX9_time_34 : decode cX9_time 34 = .ok (.iload_n 0, 1) := by decide +kernel
theorem dX9_time_35 : decode cX9_time 35 = .ok (.bipush 9, 2) := by decide +kernel
theorem dX9_time_37 : decode cX9_time 37 = .ok (.if_icmp .ne 7, 3) := by decide +kernel
theorem dX9_time_40 : decode cX9_time 40 = .ok (.iconst 5, 1) := by decide +kernel
theorem dX9_time_41 : decode cX9_time 41 = .ok (.goto 4, 3) := by decide +kernel
theorem dX9_time_44 : decode cX9_time 44 = .ok (.iconst 4, 1) := by decide +kernel
theorem dX9_time_45 : decode cX9_time 45 = .ok (.ireturn, 1) := by decide +kernel
theorem dX9_wide_0 : decode cX9_wide 0 = .ok (.iload_n 0, 1) := by decide +kernel
theorem dX9_wide_1 : decode cX9_wide 1 = .ok (.iconst 4, 1) := by decide +kernel
theorem dX9_wide_2 : decode cX9_wide 2 = .ok (.ishr, 1) := by decide +kernel
theorem dX9_wide_3 : decode cX9_wide 3 = .ok (.iconst 1, 1) := by decide +kernel
theorem dX9_wide_4 : decode cX9_wide 4 = .ok (.iand, 1) := by decide +kernel
theorem dX9_wide_5 : decode cX9_wide 5 = .ok (.iconst 1, 1) := by decide +kernel
theorem dX9_wide_6 : decode cX9_wide 6 = .ok (.if_icmp .ne 7, 3) := by decide +kernel
theorem dX9_wide_9 : decode cX9_wide 9 = .ok (.iconst 1, 1) := by decide +kernel
theorem dX9_wide_10 : decode cX9_wide 10 = .ok (.goto 4, 3) := by decide +kernel
theorem dX9_wide_13 : decode cX9_wide 13 = .ok (.iconst 0, 1) := by decide +kernel
theorem dX9_wide_14 : decode cX9_wide 14 = .ok (.istore_n 1, 1) := by decide +kernel
theorem dX9_wide_15 : decode cX9_wide 15 = .ok (.iload_n 0, 1) := by decide +kernel
theorem dX9_wide_16 : decode cX9_wide 16 = .ok (.bipush 15, 2) := by decide +kernel
theorem dX9_wide_18 : decode cX9_wide 18 = .ok (.iand, 1) := by decide +kernel
theorem dX9_wide_19 : decode cX9_wide 19 = .ok (.tableswitch 85 1 9 #[49, 61, 85, 85, 64, 85, 85, 85, 74], 49) := by decide +kernel
theorem dX9_wide_68 : decode cX9_wide 68 = .ok (.iload_n 1, 1) := by decide +kernel
theorem dX9_wide_69 : decode cX9_wide 69 = .ok (.ifCond .eq 8, 3) := by decide +kernel
theorem dX9_wide_72 : decode cX9_wide 72 = .ok (.bipush 8, 2) := by decide +kernel
theorem dX9_wide_74 : decode cX9_wide 74 = .ok (.goto 5, 3) := by decide +kernel
theorem dX9_wide_77 : decode cX9_wide 77 = .ok (.bipush 7, 2) := by decide +kernel
theorem dX9_wide_79 : decode cX9_wide 79 = .ok (.ireturn, 1) := by decide +kernel
theorem dX9_wide_80 : decode cX9_wide 80 = .ok (.bipush 9, 2) := by decide +kernel
theorem dX9_wide_82 : decode cX9_wide 82 = .ok (.ireturn, 1) := by decide +kernel
theorem dX9_wide_83 : decode cX9_wide 83 = .ok (.iload_n 1, 1) := by decide +kernel
theorem dX9_wide_84 : decode cX9_wide 84 = .ok (.ifCond .eq 7, 3) := by decide +kernel
theorem dX9_wide_87 : decode cX9_wide 87 = .ok (.iconst 2, 1) := by decide +kernel
theorem dX9_wide_88 : decode cX9_wide 88 = .ok (.goto 4, 3) := by decide +kernel
theorem dX9_wide_91 : decode cX9_wide 91 = .ok (.iconst 1, 1) := by decide +kernel
theorem dX9_wide_92 : decode cX9_wide 92 = .ok (.ireturn, 1) := by decide +kernel
theorem dX9_wide_93 : decode cX9_wide 93 = .ok (.iload_n 1, 1) := by decide +kernel
theorem dX9_wide_94 : decode cX9_wide 94 = .ok (.ifCond .eq 8, 3) := by decide +kernel
theorem dX9_wide_97 : decode cX9_wide 97 = .ok (.bipush 6, 2) := by decide +kernel
theorem dX9_wide_99 : decode cX9_wide 99 = .ok (.goto 4, 3) := by decide +kernel
theorem dX9_wide_102 : decode cX9_wide 102 = .ok (.iconst 0, 1) := by decide +kernel
theorem dX9_wide_103 : decode cX9_wide 103 = .ok (.ireturn, 1) := by decide +kernel
theorem dX9_wide_104 : decode cX9_wide 104 = .ok (.iload_n 1, 1) := by decide +kernel
theorem dX9_wide_105 : decode cX9_wide 105 = .ok (.ifCond .eq 7, 3) := by decide +kernel
theorem dX9_wide_108 : decode cX9_wide 108 = .ok (.iconst 5, 1) := by decide +kernel
theorem dX9_wide_109 : decode cX9_wide 109 = .ok (.goto 4, 3) := by decide +kernel
theorem dX9_wide_112 : decode cX9_wide 112 = .ok (.iconst 4, 1) := by decide +kernel
theorem dX9_wide_113 : decode cX9_wide 113 = .ok (.ireturn, 1) := by decide +kernel
theorem dX9_narrow_0 : decode cX9_narrow 0 = .ok (.iload_n 0, 1) := by decide +kernel
theorem dX9_narrow_1 : decode cX9_narrow 1 = .ok (.iconst 4, 1) := by decide +kernel
theorem dX9_narrow_2 : decode cX9_narrow 2 = .ok (.ishr, 1) := by decide +kernel
theorem dX9_narrow_3 : decode cX9_narrow 3 = .ok (.iconst 1, 1) := by decide +kernel
theorem dX9_narrow_4 : decode cX9_narrow 4 = .ok (.iand, 1) := by decide +kernel
theorem dX9_narrow_5 : decode cX9_narrow 5 = .ok (.iconst 1, 1) := by decide +kernel
theorem dX9_narrow_6 : decode cX9_narrow 6 = .ok (.if_icmp .ne 7, 3) := by decide +kernel
theorem dX9_narrow_9 : decode cX9_narrow 9 = .ok (.iconst 1, 1) := by decide +kernel
theorem dX9_narrow_10 : decode cX9_narrow 10 = .ok (.goto 4, 3) := by decide +kernel
theorem dX9_narrow_13 : decode cX9_narrow 13 = .ok (.iconst 0, 1) := by decide +kernel
theorem dX9_narrow_14 : decode cX9_narrow 14 = .ok (.istore_n 1, 1) := by decide +kernel
theorem dX9_narrow_15 : decode cX9_narrow 15 = .ok (.iload_n 0, 1) := by decide +kernel
theorem dX9_narrow_16 : decode cX9_narrow 16 = .ok (.bipush 15, 2) := by decide +kernel
theorem dX9_narrow_18 : decode cX9_narrow 18 = .ok (.iand, 1) := by decide +kernel
theorem dX9_narrow_19 : decode cX9_narrow 19 = .ok (.istore_n 2, 1) := by decide +kernel
theorem dX9_narrow_20 : decode cX9_narrow 20 = .ok (.iload_n 2, 1) := by decide +kernel
theorem dX9_narrow_21 : decode cX9_narrow 21 = .ok (.iconst 3, 1) := by decide +kernel
theorem dX9_narrow_22 : decode cX9_narrow 22 = .ok (.if_icmp .ge 7, 3) := by decide +kernel
theorem dX9_narrow_25 : decode cX9_narrow 25 = .ok (.iconst 0, 1) := by decide +kernel
theorem dX9_narrow_26 : decode cX9_narrow 26 = .ok (.goto 41, 3) := by decide +kernel
theorem dX9_narrow_29 : decode cX9_narrow 29 = .ok (.iload_n 2, 1) := by decide +kernel
theorem dX9_narrow_30 : decode cX9_narrow 30 = .ok (.bipush 8, 2) := by decide +kernel
theorem dX9_narrow_32 : decode cX9_narrow 32 = .ok (.if_icmp .ge 15, 3) := by decide +kernel
theorem dX9_narrow_35 : decode cX9_narrow 35 = .ok (.iload_n 1, 1) := by decide +kernel
theorem dX9_narrow_36 : decode cX9_narrow 36 = .ok (.ifCond .eq 7, 3) := by decide +kernel
theorem dX9_narrow_39 : decode cX9_narrow 39 = .ok (.iconst 2, 1) := by decide +kernel
theorem dX9_narrow_40 : decode cX9_narrow 40 = .ok (.goto 27, 3) := by decide +kernel
theorem dX9_narrow_43 : decode cX9_narrow 43 = .ok (.iconst 1, 1) := by decide +kernel
theorem dX9_narrow_44 : decode cX9_narrow 44 = .ok (.goto 23, 3) := by decide +kernel
theorem dX9_narrow_47 : decode cX9_narrow 47 = .ok (.iload_n 2, 1) := by decide +kernel
theorem dX9_narrow_48 : decode cX9_narrow 48 = .ok (.bipush 10, 2) := by decide +kernel
theorem dX9_narrow_50 : decode cX9_narrow 50 = .ok (.if_icmp .ne 8, 3) := by decide +kernel
theorem dX9_narrow_53 : decode cX9_narrow 53 = .ok (.bipush 10, 2) := by decide +kernel
theorem dX9_narrow_55 : decode cX9_narrow 55 = .ok (.goto 12, 3) := by decide +kernel
theorem dX9_narrow_58 : decode cX9_narrow 58 = .ok (.iload_n 1, 1) := by decide +kernel
theorem dX9_narrow_59 : decode cX9_narrow 59 = .ok (.ifCond .eq 7, 3) := by decide +kernel
theorem dX9_narrow_62 : decode cX9_narrow 62 = .ok (.iconst 5, 1) := by decide +kernel
theorem dX9_narrow_63 : decode cX9_narrow 63 = .ok (.goto 4, 3) := by decide +kernel
theorem dX9_narrow_66 : decode cX9_narrow 66 = .ok (.iconst 4, 1) := by decide +kernel
theorem dX9_narrow_67 : decode cX9_narrow 67 = .ok (.ireturn, 1) := by decide +kernel
theorem dX9_taken_0 : decode cX9_taken 0 = .ok (.iload_n 1, 1) := by decide +kernel
theorem dX9_taken_1 : decode cX9_taken 1 = .ok (.ifCond .ne 10, 3) := by decide +kernel
theorem dX9_taken_4 : decode cX9_taken 4 = .ok (.aload_n 0, 1) := by decide +kernel
theorem dX9_taken_5 : decode cX9_taken 5 = .ok (.getfield 117, 3) := by decide +kernel
theorem dX9_taken_8 : decode cX9_taken 8 = .ok (.goto 12, 3) := by decide +kernel
theorem dX9_taken_11 : decode cX9_taken 11 = .ok (.aload_n 0, 1) := by decide +kernel
theorem dX9_taken_12 : decode cX9_taken 12 = .ok (.aload_n 0, 1) := by decide +kernel
theorem dX9_taken_13 : decode cX9_taken 13 = .ok (.iload_n 1, 1) := by decide +kernel
theorem dX9_taken_14 : decode cX9_taken 14 = .ok (.invokevirtual 130, 3) := by decide +kernel
theorem dX9_taken_17 : decode cX9_taken 17 = .ok (.invokevirtual 100, 3) := by decide +kernel
theorem dX9_taken_20 : decode cX9_taken 20 = .ok (.ireturn, 1) := by decide +kernel
theorem dX9_alu_0 : decode cX9_alu 0 = .ok (.iload_n 1, 1) := by decide +kernel
theorem dX9_alu_1 : decode cX9_alu 1 = .ok (.iconst 5, 1) := by decide +kernel
theorem dX9_alu_2 : decode cX9_alu 2 = .ok (.ishr, 1) := by decide +kernel
theorem dX9_alu_3 : decode cX9_alu 3 = .ok (.istore_n 2, 1) := by decide +kernel
theorem dX9_alu_4 : decode cX9_alu 4 = .ok (.iload_n 1, 1) := by decide +kernel
theorem dX9_alu_5 : decode cX9_alu 5 = .ok (.invokestatic 133, 3) := by decide +kernel
theorem dX9_alu_8 : decode cX9_alu 8 = .ok (.istore_n 3, 1) := by decide +kernel
theorem dX9_alu_9 : decode cX9_alu 9 = .ok (.iload_n 2, 1) := by decide +kernel
theorem dX9_alu_10 : decode cX9_alu 10 = .ok (.iconst 4, 1) := by decide +kernel
theorem dX9_alu_11 : decode cX9_alu 11 = .ok (.if_icmp .ne 49, 3) := by decide +kernel
theorem dX9_alu_14 : decode cX9_alu 14 = .ok (.aload_n 0, 1) := by decide +kernel
theorem dX9_alu_15 : decode cX9_alu 15 = .ok (.aload_n 0, 1) := by decide +kernel
theorem dX9_alu_16 : decode cX9_alu 16 = .ok (.iload_n 3, 1) := by decide +kernel
theorem dX9_alu_17 : decode cX9_alu 17 = .ok (.invokevirtual 130, 3) := by decide +kernel
theorem dX9_alu_20 : decode cX9_alu 20 = .ok (.aload_n 0, 1) := by decide +kernel
theorem dX9_alu_21 : decode cX9_alu 21 = .ok (.getfield 14, 3) := by decide +kernel
theorem dX9_alu_24 : decode cX9_alu 24 = .ok (.iconst 0, 1) := by decide +kernel
theorem dX9_alu_25 : decode cX9_alu 25 = .ok (.iaload, 1) := by decide +kernel
theorem dX9_alu_26 : decode cX9_alu 26 = .ok (.invokevirtual 103, 3) := by decide +kernel
theorem dX9_alu_29 : decode cX9_alu 29 = .ok (.iload_n 3, 1) := by decide +kernel
theorem dX9_alu_30 : decode cX9_alu 30 = .ok (.iconst 5, 1) := by decide +kernel
theorem dX9_alu_31 : decode cX9_alu 31 = .ok (.if_icmp .eq 9, 3) := by decide +kernel
theorem dX9_alu_34 : decode cX9_alu 34 = .ok (.iload_n 3, 1) := by decide +kernel
theorem dX9_alu_35 : decode cX9_alu 35 = .ok (.bipush 6, 2) := by decide +kernel
theorem dX9_alu_37 : decode cX9_alu 37 = .ok (.if_icmp .ne 7, 3) := by decide +kernel
theorem dX9_alu_40 : decode cX9_alu 40 = .ok (.iconst 5, 1) := by decide +kernel
theorem dX9_alu_41 : decode cX9_alu 41 = .ok (.goto 18, 3) := by decide +kernel
theorem dX9_alu_44 : decode cX9_alu 44 = .ok (.iload_n 3, 1) := by decide +kernel
theorem dX9_alu_45 : decode cX9_alu 45 = .ok (.bipush 8, 2) := by decide +kernel
theorem dX9_alu_47 : decode cX9_alu 47 = .ok (.if_icmp .ne 8, 3) := by decide +kernel
theorem dX9_alu_50 : decode cX9_alu 50 = .ok (.bipush 6, 2) := by decide +kernel
theorem dX9_alu_52 : decode cX9_alu 52 = .ok (.goto 7, 3) := by decide +kernel
theorem dX9_alu_55 : decode cX9_alu 55 = .ok (.iload_n 3, 1) := by decide +kernel
theorem dX9_alu_56 : decode cX9_alu 56 = .ok (.invokestatic 136, 3) := by decide +kernel
theorem dX9_alu_59 : decode cX9_alu 59 = .ok (.ireturn, 1) := by decide +kernel
theorem dX9_alu_60 : decode cX9_alu 60 = .ok (.aload_n 0, 1) := by decide +kernel
theorem dX9_alu_61 : decode cX9_alu 61 = .ok (.iconst 0, 1) := by decide +kernel
theorem dX9_alu_62 : decode cX9_alu 62 = .ok (.putfield 114, 3) := by decide +kernel
theorem dX9_alu_65 : decode cX9_alu 65 = .ok (.aload_n 0, 1) := by decide +kernel
theorem dX9_alu_66 : decode cX9_alu 66 = .ok (.iload_n 3, 1) := by decide +kernel
theorem dX9_alu_67 : decode cX9_alu 67 = .ok (.invokevirtual 139, 3) := by decide +kernel
theorem dX9_alu_70 : decode cX9_alu 70 = .ok (.istore 4, 2) := by decide +kernel
theorem dX9_alu_72 : decode cX9_alu 72 = .ok (.iload_n 3, 1) := by decide +kernel
theorem dX9_alu_73 : decode cX9_alu 73 = .ok (.invokestatic 136, 3) := by decide +kernel
theorem dX9_alu_76 : decode cX9_alu 76 = .ok (.aload_n 0, 1) := by decide +kernel
theorem dX9_alu_77 : decode cX9_alu 77 = .ok (.getfield 114, 3) := by decide +kernel
theorem dX9_alu_80 : decode cX9_alu 80 = .ok (.ifCond .eq 7, 3) := by decide +kernel
theorem dX9_alu_83 : decode cX9_alu 83 = .ok (.iconst 1, 1) := by decide +kernel
theorem dX9_alu_84 : decode cX9_alu 84 = .ok (.goto 4, 3) := by decide +kernel
theorem dX9_alu_87 : decode cX9_alu 87 = .ok (.iconst 0, 1) := by decide +kernel
theorem dX9_alu_88 : decode cX9_alu 88 = .ok (.iadd, 1) := by decide +kernel
theorem dX9_alu_89 : decode cX9_alu 89 = .ok (.istore 5, 2) := by decide +kernel
theorem dX9_alu_91 : decode cX9_alu 91 = .ok (.iload_n 2, 1) := by decide +kernel
theorem dX9_alu_92 : decode cX9_alu 92 = .ok (.tableswitch 154 0 6 #[44, 66, 88, 110, 154, 124, 139], 44) := by decide +kernel
theorem dX9_alu_136 : decode cX9_alu 136 = .ok (.aload_n 0, 1) := by decide +kernel
theorem dX9_alu_137 : decode cX9_alu 137 = .ok (.getfield 14, 3) := by decide +kernel
theorem dX9_alu_140 : decode cX9_alu 140 = .ok (.iconst 0, 1) := by decide +kernel
theorem dX9_alu_141 : decode cX9_alu 141 = .ok (.aload_n 0, 1) := by decide +kernel
theorem dX9_alu_142 : decode cX9_alu 142 = .ok (.aload_n 0, 1) := by decide +kernel
theorem dX9_alu_143 : decode cX9_alu 143 = .ok (.getfield 14, 3) := by decide +kernel
theorem dX9_alu_146 : decode cX9_alu 146 = .ok (.iconst 0, 1) := by decide +kernel
theorem dX9_alu_147 : decode cX9_alu 147 = .ok (.iaload, 1) := by decide +kernel
theorem dX9_alu_148 : decode cX9_alu 148 = .ok (.iload 4, 2) := by decide +kernel
theorem dX9_alu_150 : decode cX9_alu 150 = .ok (.ior, 1) := by decide +kernel
theorem dX9_alu_151 : decode cX9_alu 151 = .ok (.invokevirtual 142, 3) := by decide +kernel
theorem dX9_alu_154 : decode cX9_alu 154 = .ok (.iastore, 1) := by decide +kernel
theorem dX9_alu_155 : decode cX9_alu 155 = .ok (.goto 102, 3) := by decide +kernel
theorem dX9_alu_158 : decode cX9_alu 158 = .ok (.aload_n 0, 1) := by decide +kernel
theorem dX9_alu_159 : decode cX9_alu 159 = .ok (.getfield 14, 3) := by decide +kernel
theorem dX9_alu_162 : decode cX9_alu 162 = .ok (.iconst 0, 1) := by decide +kernel
theorem dX9_alu_163 : decode cX9_alu 163 = .ok (.aload_n 0, 1) := by decide +kernel
theorem dX9_alu_164 : decode cX9_alu 164 = .ok (.aload_n 0, 1) := by decide +kernel
theorem dX9_alu_165 : decode cX9_alu 165 = .ok (.getfield 14, 3) := by decide +kernel
theorem dX9_alu_168 : decode cX9_alu 168 = .ok (.iconst 0, 1) := by decide +kernel
theorem dX9_alu_169 : decode cX9_alu 169 = .ok (.iaload, 1) := by decide +kernel
theorem dX9_alu_170 : decode cX9_alu 170 = .ok (.iload 4, 2) := by decide +kernel
theorem dX9_alu_172 : decode cX9_alu 172 = .ok (.iand, 1) := by decide +kernel
theorem dX9_alu_173 : decode cX9_alu 173 = .ok (.invokevirtual 142, 3) := by decide +kernel
theorem dX9_alu_176 : decode cX9_alu 176 = .ok (.iastore, 1) := by decide +kernel
theorem dX9_alu_177 : decode cX9_alu 177 = .ok (.goto 80, 3) := by decide +kernel
theorem dX9_alu_180 : decode cX9_alu 180 = .ok (.aload_n 0, 1) := by decide +kernel
theorem dX9_alu_181 : decode cX9_alu 181 = .ok (.getfield 14, 3) := by decide +kernel
theorem dX9_alu_184 : decode cX9_alu 184 = .ok (.iconst 0, 1) := by decide +kernel
theorem dX9_alu_185 : decode cX9_alu 185 = .ok (.aload_n 0, 1) := by decide +kernel
theorem dX9_alu_186 : decode cX9_alu 186 = .ok (.aload_n 0, 1) := by decide +kernel
theorem dX9_alu_187 : decode cX9_alu 187 = .ok (.getfield 14, 3) := by decide +kernel
theorem dX9_alu_190 : decode cX9_alu 190 = .ok (.iconst 0, 1) := by decide +kernel
theorem dX9_alu_191 : decode cX9_alu 191 = .ok (.iaload, 1) := by decide +kernel
theorem dX9_alu_192 : decode cX9_alu 192 = .ok (.iload 4, 2) := by decide +kernel
theorem dX9_alu_194 : decode cX9_alu 194 = .ok (.ixor, 1) := by decide +kernel
theorem dX9_alu_195 : decode cX9_alu 195 = .ok (.invokevirtual 142, 3) := by decide +kernel
theorem dX9_alu_198 : decode cX9_alu 198 = .ok (.iastore, 1) := by decide +kernel
theorem dX9_alu_199 : decode cX9_alu 199 = .ok (.goto 58, 3) := by decide +kernel
theorem dX9_alu_202 : decode cX9_alu 202 = .ok (.iload 5, 2) := by decide +kernel
theorem dX9_alu_204 : decode cX9_alu 204 = .ok (.aload_n 0, 1) := by decide +kernel
theorem dX9_alu_205 : decode cX9_alu 205 = .ok (.iload 4, 2) := by decide +kernel
theorem dX9_alu_207 : decode cX9_alu 207 = .ok (.invokevirtual 145, 3) := by decide +kernel
theorem dX9_alu_210 : decode cX9_alu 210 = .ok (.iadd, 1) := by decide +kernel
theorem dX9_alu_211 : decode cX9_alu 211 = .ok (.istore 5, 2) := by decide +kernel
theorem dX9_alu_213 : decode cX9_alu 213 = .ok (.goto 44, 3) := by decide +kernel
theorem dX9_alu_216 : decode cX9_alu 216 = .ok (.aload_n 0, 1) := by decide +kernel
theorem dX9_alu_217 : decode cX9_alu 217 = .ok (.getfield 14, 3) := by decide +kernel
theorem dX9_alu_220 : decode cX9_alu 220 = .ok (.iconst 0, 1) := by decide +kernel
theorem dX9_alu_221 : decode cX9_alu 221 = .ok (.aload_n 0, 1) := by decide +kernel
theorem dX9_alu_222 : decode cX9_alu 222 = .ok (.iload 4, 2) := by decide +kernel
theorem dX9_alu_224 : decode cX9_alu 224 = .ok (.invokevirtual 142, 3) := by decide +kernel
theorem dX9_alu_227 : decode cX9_alu 227 = .ok (.iastore, 1) := by decide +kernel
theorem dX9_alu_228 : decode cX9_alu 228 = .ok (.goto 29, 3) := by decide +kernel
theorem dX9_alu_231 : decode cX9_alu 231 = .ok (.aload_n 0, 1) := by decide +kernel
theorem dX9_alu_232 : decode cX9_alu 232 = .ok (.aload_n 0, 1) := by decide +kernel
theorem dX9_alu_233 : decode cX9_alu 233 = .ok (.getfield 14, 3) := by decide +kernel
theorem dX9_alu_236 : decode cX9_alu 236 = .ok (.iconst 0, 1) := by decide +kernel
theorem dX9_alu_237 : decode cX9_alu 237 = .ok (.iaload, 1) := by decide +kernel
theorem dX9_alu_238 : decode cX9_alu 238 = .ok (.iload 4, 2) := by decide +kernel
theorem dX9_alu_240 : decode cX9_alu 240 = .ok (.invokevirtual 148, 3) := by decide +kernel
theorem dX9_alu_243 : decode cX9_alu 243 = .ok (.goto 14, 3) := by decide +kernel
theorem dX9_alu_246 : decode cX9_alu 246 = .ok (.iload 5, 2) := by decide +kernel
theorem dX9_alu_248 : decode cX9_alu 248 = .ok (.aload_n 0, 1) := by decide +kernel
theorem dX9_alu_249 : decode cX9_alu 249 = .ok (.iload 4, 2) := by decide +kernel
theorem dX9_alu_251 : decode cX9_alu 251 = .ok (.invokevirtual 151, 3) := by decide +kernel
theorem dX9_alu_254 : decode cX9_alu 254 = .ok (.iadd, 1) := by decide +kernel
theorem dX9_alu_255 : decode cX9_alu 255 = .ok (.istore 5, 2) := by decide +kernel
theorem dX9_alu_257 : decode cX9_alu 257 = .ok (.iload 5, 2) := by decide +kernel
theorem dX9_alu_259 : decode cX9_alu 259 = .ok (.ireturn, 1) := by decide +kernel
theorem dX9_compare_0 : decode cX9_compare 0 = .ok (.aload_n 0, 1) := by decide +kernel
theorem dX9_compare_1 : decode cX9_compare 1 = .ok (.iconst 1, 1) := by decide +kernel
theorem dX9_compare_2 : decode cX9_compare 2 = .ok (.iload_n 1, 1) := by decide +kernel
theorem dX9_compare_3 : decode cX9_compare 3 = .ok (.iload_n 2, 1) := by decide +kernel
theorem dX9_compare_4 : decode cX9_compare 4 = .ok (.if_icmp .lt 7, 3) := by decide +kernel
theorem dX9_compare_7 : decode cX9_compare 7 = .ok (.iconst 1, 1) := by decide +kernel
theorem dX9_compare_8 : decode cX9_compare 8 = .ok (.goto 4, 3) := by decide +kernel
theorem dX9_compare_11 : decode cX9_compare 11 = .ok (.iconst 0, 1) := by decide +kernel
theorem dX9_compare_12 : decode cX9_compare 12 = .ok (.invokevirtual 110, 3) := by decide +kernel
theorem dX9_compare_15 : decode cX9_compare 15 = .ok (.aload_n 0, 1) := by decide +kernel
theorem dX9_compare_16 : decode cX9_compare 16 = .ok (.iload_n 1, 1) := by decide +kernel
theorem dX9_compare_17 : decode cX9_compare 17 = .ok (.iload_n 2, 1) := by decide +kernel
theorem dX9_compare_18 : decode cX9_compare 18 = .ok (.isub, 1) := by decide +kernel
theorem dX9_compare_19 : decode cX9_compare 19 = .ok (.sipush 255, 3) := by decide +kernel
theorem dX9_compare_22 : decode cX9_compare 22 = .ok (.iand, 1) := by decide +kernel
theorem dX9_compare_23 : decode cX9_compare 23 = .ok (.invokevirtual 142, 3) := by decide +kernel
theorem dX9_compare_26 : decode cX9_compare 26 = .ok (.pop, 1) := by decide +kernel
theorem dX9_compare_27 : decode cX9_compare 27 = .ok (.return_, 1) := by decide +kernel
theorem dX9_overflows_0 : decode cX9_overflows 0 = .ok (.aload_n 0, 1) := by decide +kernel
theorem dX9_overflows_1 : decode cX9_overflows 1 = .ok (.bipush 64, 2) := by decide +kernel
theorem dX9_overflows_3 : decode cX9_overflows 3 = .ok (.aload_n 0, 1) := by decide +kernel
theorem dX9_overflows_4 : decode cX9_overflows 4 = .ok (.getfield 14, 3) := by decide +kernel
theorem dX9_overflows_7 : decode cX9_overflows 7 = .ok (.iconst 0, 1) := by decide +kernel
theorem dX9_overflows_8 : decode cX9_overflows 8 = .ok (.iaload, 1) := by decide +kernel
theorem dX9_overflows_9 : decode cX9_overflows 9 = .ok (.iload_n 2, 1) := by decide +kernel
theorem dX9_overflows_10 : decode cX9_overflows 10 = .ok (.ixor, 1) := by decide +kernel
theorem dX9_overflows_11 : decode cX9_overflows 11 = .ok (.iload_n 1, 1) := by decide +kernel
theorem dX9_overflows_12 : decode cX9_overflows 12 = .ok (.iload_n 2, 1) := by decide +kernel
theorem dX9_overflows_13 : decode cX9_overflows 13 = .ok (.ixor, 1) := by decide +kernel
theorem dX9_overflows_14 : decode cX9_overflows 14 = .ok (.iand, 1) := by decide +kernel
theorem dX9_overflows_15 : decode cX9_overflows 15 = .ok (.sipush 128, 3) := by decide +kernel
theorem dX9_overflows_18 : decode cX9_overflows 18 = .ok (.iand, 1) := by decide +kernel
theorem dX9_overflows_19 : decode cX9_overflows 19 = .ok (.ifCond .eq 7, 3) := by decide +kernel
theorem dX9_overflows_22 : decode cX9_overflows 22 = .ok (.iconst 1, 1) := by decide +kernel
theorem dX9_overflows_23 : decode cX9_overflows 23 = .ok (.goto 4, 3) := by decide +kernel
theorem dX9_overflows_26 : decode cX9_overflows 26 = .ok (.iconst 0, 1) := by decide +kernel
theorem dX9_overflows_27 : decode cX9_overflows 27 = .ok (.invokevirtual 110, 3) := by decide +kernel
theorem dX9_overflows_30 : decode cX9_overflows 30 = .ok (.return_, 1) := by decide +kernel
theorem dX9_add_0 : decode cX9_add 0 = .ok (.aload_n 0, 1) := by decide +kernel
theorem dX9_add_1 : decode cX9_add 1 = .ok (.getfield 14, 3) := by decide +kernel
theorem dX9_add_4 : decode cX9_add 4 = .ok (.iconst 0, 1) := by decide +kernel
theorem dX9_add_5 : decode cX9_add 5 = .ok (.iaload, 1) := by decide +kernel
theorem dX9_add_6 : decode cX9_add 6 = .ok (.iload_n 1, 1) := by decide +kernel
theorem dX9_add_7 : decode cX9_add 7 = .ok (.iadd, 1) := by decide +kernel
theorem dX9_add_8 : decode cX9_add 8 = .ok (.aload_n 0, 1) := by decide +kernel
theorem dX9_add_9 : decode cX9_add 9 = .ok (.invokevirtual 154, 3) := by decide +kernel
theorem dX9_add_12 : decode cX9_add 12 = .ok (.iadd, 1) := by decide +kernel
theorem dX9_add_13 : decode cX9_add 13 = .ok (.istore_n 2, 1) := by decide +kernel
theorem dX9_add_14 : decode cX9_add 14 = .ok (.aload_n 0, 1) := by decide +kernel
theorem dX9_add_15 : decode cX9_add 15 = .ok (.bipush 8, 2) := by decide +kernel
theorem dX9_add_17 : decode cX9_add 17 = .ok (.invokevirtual 157, 3) := by decide +kernel
theorem dX9_add_20 : decode cX9_add 20 = .ok (.ifCond .eq 59, 3) := by decide +kernel
theorem dX9_add_23 : decode cX9_add 23 = .ok (.aload_n 0, 1) := by decide +kernel
theorem dX9_add_24 : decode cX9_add 24 = .ok (.getfield 14, 3) := by decide +kernel
theorem dX9_add_27 : decode cX9_add 27 = .ok (.iconst 0, 1) := by decide +kernel
theorem dX9_add_28 : decode cX9_add 28 = .ok (.iaload, 1) := by decide +kernel
theorem dX9_add_29 : decode cX9_add 29 = .ok (.bipush 15, 2) := by decide +kernel
theorem dX9_add_31 : decode cX9_add 31 = .ok (.iand, 1) := by decide +kernel
theorem dX9_add_32 : decode cX9_add 32 = .ok (.iload_n 1, 1) := by decide +kernel
theorem dX9_add_33 : decode cX9_add 33 = .ok (.bipush 15, 2) := by decide +kernel
theorem dX9_add_35 : decode cX9_add 35 = .ok (.iand, 1) := by decide +kernel
theorem dX9_add_36 : decode cX9_add 36 = .ok (.iadd, 1) := by decide +kernel
theorem dX9_add_37 : decode cX9_add 37 = .ok (.aload_n 0, 1) := by decide +kernel
theorem dX9_add_38 : decode cX9_add 38 = .ok (.invokevirtual 154, 3) := by decide +kernel
theorem dX9_add_41 : decode cX9_add 41 = .ok (.iadd, 1) := by decide +kernel
theorem dX9_add_42 : decode cX9_add 42 = .ok (.istore_n 3, 1) := by decide +kernel
theorem dX9_add_43 : decode cX9_add 43 = .ok (.iload_n 3, 1) := by decide +kernel
theorem dX9_add_44 : decode cX9_add 44 = .ok (.bipush 9, 2) := by decide +kernel
theorem dX9_add_46 : decode cX9_add 46 = .ok (.if_icmp .le 14, 3) := by decide +kernel
theorem dX9_add_49 : decode cX9_add 49 = .ok (.iload_n 3, 1) := by decide +kernel
theorem dX9_add_50 : decode cX9_add 50 = .ok (.bipush 6, 2) := by decide +kernel
theorem dX9_add_52 : decode cX9_add 52 = .ok (.iadd, 1) := by decide +kernel
theorem dX9_add_53 : decode cX9_add 53 = .ok (.bipush 15, 2) := by decide +kernel
theorem dX9_add_55 : decode cX9_add 55 = .ok (.iand, 1) := by decide +kernel
theorem dX9_add_56 : decode cX9_add 56 = .ok (.bipush 16, 2) := by decide +kernel
theorem dX9_add_58 : decode cX9_add 58 = .ok (.iadd, 1) := by decide +kernel
theorem dX9_add_59 : decode cX9_add 59 = .ok (.istore_n 3, 1) := by decide +kernel
theorem dX9_add_60 : decode cX9_add 60 = .ok (.aload_n 0, 1) := by decide +kernel
theorem dX9_add_61 : decode cX9_add 61 = .ok (.getfield 14, 3) := by decide +kernel
theorem dX9_add_64 : decode cX9_add 64 = .ok (.iconst 0, 1) := by decide +kernel
theorem dX9_add_65 : decode cX9_add 65 = .ok (.iaload, 1) := by decide +kernel
theorem dX9_add_66 : decode cX9_add 66 = .ok (.sipush 240, 3) := by decide +kernel
theorem dX9_add_69 : decode cX9_add 69 = .ok (.iand, 1) := by decide +kernel
theorem dX9_add_70 : decode cX9_add 70 = .ok (.iload_n 1, 1) := by decide +kernel
theorem dX9_add_71 : decode cX9_add 71 = .ok (.sipush 240, 3) := by decide +kernel
theorem dX9_add_74 : decode cX9_add 74 = .ok (.iand, 1) := by decide +kernel
theorem dX9_add_75 : decode cX9_add 75 = .ok (.iadd, 1) := by decide +kernel
theorem dX9_add_76 : decode cX9_add 76 = .ok (.iload_n 3, 1) := by decide +kernel
theorem dX9_add_77 : decode cX9_add 77 = .ok (.iadd, 1) := by decide +kernel
theorem dX9_add_78 : decode cX9_add 78 = .ok (.istore_n 2, 1) := by decide +kernel
theorem dX9_add_79 : decode cX9_add 79 = .ok (.aload_n 0, 1) := by decide +kernel
theorem dX9_add_80 : decode cX9_add 80 = .ok (.iload_n 1, 1) := by decide +kernel
theorem dX9_add_81 : decode cX9_add 81 = .ok (.iload_n 2, 1) := by decide +kernel
theorem dX9_add_82 : decode cX9_add 82 = .ok (.invokevirtual 161, 3) := by decide +kernel
theorem dX9_add_85 : decode cX9_add 85 = .ok (.aload_n 0, 1) := by decide +kernel
theorem dX9_add_86 : decode cX9_add 86 = .ok (.bipush 8, 2) := by decide +kernel
theorem dX9_add_88 : decode cX9_add 88 = .ok (.invokevirtual 157, 3) := by decide +kernel
theorem dX9_add_91 : decode cX9_add 91 = .ok (.ifCond .eq 13, 3) := by decide +kernel
theorem dX9_add_94 : decode cX9_add 94 = .ok (.iload_n 2, 1) := by decide +kernel
theorem dX9_add_95 : decode cX9_add 95 = .ok (.sipush 159, 3) := by decide +kernel
theorem dX9_add_98 : decode cX9_add 98 = .ok (.if_icmp .le 6, 3) := by decide +kernel
theorem dX9_add_101 : decode cX9_add 101 = .ok (.iinc 2 96, 3) := by decide +kernel
theorem dX9_add_104 : decode cX9_add 104 = .ok (.aload_n 0, 1) := by decide +kernel
theorem dX9_add_105 : decode cX9_add 105 = .ok (.iconst 1, 1) := by decide +kernel
theorem dX9_add_106 : decode cX9_add 106 = .ok (.iload_n 2, 1) := by decide +kernel
theorem dX9_add_107 : decode cX9_add 107 = .ok (.sipush 255, 3) := by decide +kernel
theorem dX9_add_110 : decode cX9_add 110 = .ok (.if_icmp .le 7, 3) := by decide +kernel
theorem dX9_add_113 : decode cX9_add 113 = .ok (.iconst 1, 1) := by decide +kernel
theorem dX9_add_114 : decode cX9_add 114 = .ok (.goto 4, 3) := by decide +kernel
theorem dX9_add_117 : decode cX9_add 117 = .ok (.iconst 0, 1) := by decide +kernel
theorem dX9_add_118 : decode cX9_add 118 = .ok (.invokevirtual 110, 3) := by decide +kernel
theorem dX9_add_121 : decode cX9_add 121 = .ok (.aload_n 0, 1) := by decide +kernel
theorem dX9_add_122 : decode cX9_add 122 = .ok (.getfield 14, 3) := by decide +kernel
theorem dX9_add_125 : decode cX9_add 125 = .ok (.iconst 0, 1) := by decide +kernel
theorem dX9_add_126 : decode cX9_add 126 = .ok (.aload_n 0, 1) := by decide +kernel
theorem dX9_add_127 : decode cX9_add 127 = .ok (.iload_n 2, 1) := by decide +kernel
theorem dX9_add_128 : decode cX9_add 128 = .ok (.sipush 255, 3) := by decide +kernel
theorem dX9_add_131 : decode cX9_add 131 = .ok (.iand, 1) := by decide +kernel
theorem dX9_add_132 : decode cX9_add 132 = .ok (.invokevirtual 142, 3) := by decide +kernel
theorem dX9_add_135 : decode cX9_add 135 = .ok (.iastore, 1) := by decide +kernel
theorem dX9_add_136 : decode cX9_add 136 = .ok (.aload_n 0, 1) := by decide +kernel
theorem dX9_add_137 : decode cX9_add 137 = .ok (.bipush 8, 2) := by decide +kernel
theorem dX9_add_139 : decode cX9_add 139 = .ok (.invokevirtual 157, 3) := by decide +kernel
theorem dX9_add_142 : decode cX9_add 142 = .ok (.ifCond .eq 7, 3) := by decide +kernel
theorem dX9_add_145 : decode cX9_add 145 = .ok (.iconst 1, 1) := by decide +kernel
theorem dX9_add_146 : decode cX9_add 146 = .ok (.goto 4, 3) := by decide +kernel
theorem dX9_add_149 : decode cX9_add 149 = .ok (.iconst 0, 1) := by decide +kernel
theorem dX9_add_150 : decode cX9_add 150 = .ok (.ireturn, 1) := by decide +kernel
theorem dX9_subtract_0 : decode cX9_subtract 0 = .ok (.aload_n 0, 1) := by decide +kernel
theorem dX9_subtract_1 : decode cX9_subtract 1 = .ok (.bipush 8, 2) := by decide +kernel
theorem dX9_subtract_3 : decode cX9_subtract 3 = .ok (.invokevirtual 157, 3) := by decide +kernel
theorem dX9_subtract_6 : decode cX9_subtract 6 = .ok (.ifCond .ne 13, 3) := by decide +kernel
theorem dX9_subtract_9 : decode cX9_subtract 9 = .ok (.aload_n 0, 1) := by decide +kernel
theorem dX9_subtract_10 : decode cX9_subtract 10 = .ok (.sipush 255, 3) := by decide +kernel
theorem dX9_subtract_13 : decode cX9_subtract 13 = .ok (.iload_n 1, 1) := by decide +kernel
theorem dX9_subtract_14 : decode cX9_subtract 14 = .ok (.isub, 1) := by decide +kernel
theorem dX9_subtract_15 : decode cX9_subtract 15 = .ok (.invokevirtual 145, 3) := by decide +kernel
theorem dX9_subtract_18 : decode cX9_subtract 18 = .ok (.ireturn, 1) := by decide +kernel
theorem dX9_subtract_19 : decode cX9_subtract 19 = .ok (.aload_n 0, 1) := by decide +kernel
theorem dX9_subtract_20 : decode cX9_subtract 20 = .ok (.invokevirtual 154, 3) := by decide +kernel
theorem dX9_subtract_23 : decode cX9_subtract 23 = .ok (.istore_n 2, 1) := by decide +kernel
theorem dX9_subtract_24 : decode cX9_subtract 24 = .ok (.aload_n 0, 1) := by decide +kernel
theorem dX9_subtract_25 : decode cX9_subtract 25 = .ok (.getfield 14, 3) := by decide +kernel
theorem dX9_subtract_28 : decode cX9_subtract 28 = .ok (.iconst 0, 1) := by decide +kernel
theorem dX9_subtract_29 : decode cX9_subtract 29 = .ok (.iaload, 1) := by decide +kernel
theorem dX9_subtract_30 : decode cX9_subtract 30 = .ok (.sipush 255, 3) := by decide +kernel
theorem dX9_subtract_33 : decode cX9_subtract 33 = .ok (.iadd, 1) := by decide +kernel
theorem dX9_subtract_34 : decode cX9_subtract 34 = .ok (.iload_n 1, 1) := by decide +kernel
theorem dX9_subtract_35 : decode cX9_subtract 35 = .ok (.isub, 1) := by decide +kernel
theorem dX9_subtract_36 : decode cX9_subtract 36 = .ok (.iload_n 2, 1) := by decide +kernel
theorem dX9_subtract_37 : decode cX9_subtract 37 = .ok (.iadd, 1) := by decide +kernel
theorem dX9_subtract_38 : decode cX9_subtract 38 = .ok (.istore_n 3, 1) := by decide +kernel
theorem dX9_subtract_39 : decode cX9_subtract 39 = .ok (.aload_n 0, 1) := by decide +kernel
theorem dX9_subtract_40 : decode cX9_subtract 40 = .ok (.sipush 255, 3) := by decide +kernel
theorem dX9_subtract_43 : decode cX9_subtract 43 = .ok (.iload_n 1, 1) := by decide +kernel
theorem dX9_subtract_44 : decode cX9_subtract 44 = .ok (.isub, 1) := by decide +kernel
theorem dX9_subtract_45 : decode cX9_subtract 45 = .ok (.iload_n 3, 1) := by decide +kernel
theorem dX9_subtract_46 : decode cX9_subtract 46 = .ok (.invokevirtual 161, 3) := by decide +kernel
theorem dX9_subtract_49 : decode cX9_subtract 49 = .ok (.aload_n 0, 1) := by decide +kernel
theorem dX9_subtract_50 : decode cX9_subtract 50 = .ok (.getfield 14, 3) := by decide +kernel
theorem dX9_subtract_53 : decode cX9_subtract 53 = .ok (.iconst 0, 1) := by decide +kernel
theorem dX9_subtract_54 : decode cX9_subtract 54 = .ok (.iaload, 1) := by decide +kernel
theorem dX9_subtract_55 : decode cX9_subtract 55 = .ok (.bipush 15, 2) := by decide +kernel
theorem dX9_subtract_57 : decode cX9_subtract 57 = .ok (.iand, 1) := by decide +kernel
theorem dX9_subtract_58 : decode cX9_subtract 58 = .ok (.iload_n 1, 1) := by decide +kernel
theorem dX9_subtract_59 : decode cX9_subtract 59 = .ok (.bipush 15, 2) := by decide +kernel
theorem dX9_subtract_61 : decode cX9_subtract 61 = .ok (.iand, 1) := by decide +kernel
theorem dX9_subtract_62 : decode cX9_subtract 62 = .ok (.isub, 1) := by decide +kernel
theorem dX9_subtract_63 : decode cX9_subtract 63 = .ok (.iload_n 2, 1) := by decide +kernel
theorem dX9_subtract_64 : decode cX9_subtract 64 = .ok (.iadd, 1) := by decide +kernel
theorem dX9_subtract_65 : decode cX9_subtract 65 = .ok (.iconst 1, 1) := by decide +kernel
theorem dX9_subtract_66 : decode cX9_subtract 66 = .ok (.isub, 1) := by decide +kernel
theorem dX9_subtract_67 : decode cX9_subtract 67 = .ok (.istore 4, 2) := by decide +kernel
theorem dX9_subtract_69 : decode cX9_subtract 69 = .ok (.aload_n 0, 1) := by decide +kernel
theorem dX9_subtract_70 : decode cX9_subtract 70 = .ok (.getfield 14, 3) := by decide +kernel
theorem dX9_subtract_73 : decode cX9_subtract 73 = .ok (.iconst 0, 1) := by decide +kernel
theorem dX9_subtract_74 : decode cX9_subtract 74 = .ok (.iaload, 1) := by decide +kernel
theorem dX9_subtract_75 : decode cX9_subtract 75 = .ok (.iload_n 1, 1) := by decide +kernel
theorem dX9_subtract_76 : decode cX9_subtract 76 = .ok (.isub, 1) := by decide +kernel
theorem dX9_subtract_77 : decode cX9_subtract 77 = .ok (.iload_n 2, 1) := by decide +kernel
theorem dX9_subtract_78 : decode cX9_subtract 78 = .ok (.iadd, 1) := by decide +kernel
theorem dX9_subtract_79 : decode cX9_subtract 79 = .ok (.iconst 1, 1) := by decide +kernel
theorem dX9_subtract_80 : decode cX9_subtract 80 = .ok (.isub, 1) := by decide +kernel
theorem dX9_subtract_81 : decode cX9_subtract 81 = .ok (.istore 5, 2) := by decide +kernel
theorem dX9_subtract_83 : decode cX9_subtract 83 = .ok (.aload_n 0, 1) := by decide +kernel
theorem dX9_subtract_84 : decode cX9_subtract 84 = .ok (.iconst 1, 1) := by decide +kernel
theorem dX9_subtract_85 : decode cX9_subtract 85 = .ok (.iload_n 3, 1) := by decide +kernel
theorem dX9_subtract_86 : decode cX9_subtract 86 = .ok (.sipush 255, 3) := by decide +kernel
theorem dX9_subtract_89 : decode cX9_subtract 89 = .ok (.if_icmp .le 7, 3) := by decide +kernel
theorem dX9_subtract_92 : decode cX9_subtract 92 = .ok (.iconst 1, 1) := by decide +kernel
theorem dX9_subtract_93 : decode cX9_subtract 93 = .ok (.goto 4, 3) := by decide +kernel
theorem dX9_subtract_96 : decode cX9_subtract 96 = .ok (.iconst 0, 1) := by decide +kernel
theorem dX9_subtract_97 : decode cX9_subtract 97 = .ok (.invokevirtual 110, 3) := by decide +kernel
theorem dX9_subtract_100 : decode cX9_subtract 100 = .ok (.iload 5, 2) := by decide +kernel
theorem dX9_subtract_102 : decode cX9_subtract 102 = .ok (.ifCond .ge 11, 3) := by decide +kernel
theorem dX9_subtract_105 : decode cX9_subtract 105 = .ok (.iload 5, 2) := by decide +kernel
theorem dX9_subtract_107 : decode cX9_subtract 107 = .ok (.bipush 96, 2) := by decide +kernel
theorem dX9_subtract_109 : decode cX9_subtract 109 = .ok (.isub, 1) := by decide +kernel
theorem dX9_subtract_110 : decode cX9_subtract 110 = .ok (.goto 5, 3) := by decide +kernel
theorem dX9_subtract_113 : decode cX9_subtract 113 = .ok (.iload 5, 2) := by decide +kernel
theorem dX9_subtract_115 : decode cX9_subtract 115 = .ok (.istore 5, 2) := by decide +kernel
theorem dX9_subtract_117 : decode cX9_subtract 117 = .ok (.iload 4, 2) := by decide +kernel
theorem dX9_subtract_119 : decode cX9_subtract 119 = .ok (.ifCond .ge 11, 3) := by decide +kernel
theorem dX9_subtract_122 : decode cX9_subtract 122 = .ok (.iload 5, 2) := by decide +kernel
theorem dX9_subtract_124 : decode cX9_subtract 124 = .ok (.bipush 6, 2) := by decide +kernel
theorem dX9_subtract_126 : decode cX9_subtract 126 = .ok (.isub, 1) := by decide +kernel
theorem dX9_subtract_127 : decode cX9_subtract 127 = .ok (.goto 5, 3) := by decide +kernel
theorem dX9_subtract_130 : decode cX9_subtract 130 = .ok (.iload 5, 2) := by decide +kernel
theorem dX9_subtract_132 : decode cX9_subtract 132 = .ok (.istore 5, 2) := by decide +kernel
theorem dX9_subtract_134 : decode cX9_subtract 134 = .ok (.aload_n 0, 1) := by decide +kernel
theorem dX9_subtract_135 : decode cX9_subtract 135 = .ok (.getfield 14, 3) := by decide +kernel
theorem dX9_subtract_138 : decode cX9_subtract 138 = .ok (.iconst 0, 1) := by decide +kernel
theorem dX9_subtract_139 : decode cX9_subtract 139 = .ok (.aload_n 0, 1) := by decide +kernel
theorem dX9_subtract_140 : decode cX9_subtract 140 = .ok (.iload 5, 2) := by decide +kernel
theorem dX9_subtract_142 : decode cX9_subtract 142 = .ok (.sipush 255, 3) := by decide +kernel
theorem dX9_subtract_145 : decode cX9_subtract 145 = .ok (.iand, 1) := by decide +kernel
theorem dX9_subtract_146 : decode cX9_subtract 146 = .ok (.invokevirtual 142, 3) := by decide +kernel
theorem dX9_subtract_149 : decode cX9_subtract 149 = .ok (.iastore, 1) := by decide +kernel
theorem dX9_subtract_150 : decode cX9_subtract 150 = .ok (.iconst 1, 1) := by decide +kernel
theorem dX9_subtract_151 : decode cX9_subtract 151 = .ok (.ireturn, 1) := by decide +kernel
theorem dX9_changed_0 : decode cX9_changed 0 = .ok (.aload_n 0, 1) := by decide +kernel
theorem dX9_changed_1 : decode cX9_changed 1 = .ok (.invokevirtual 154, 3) := by decide +kernel
theorem dX9_changed_4 : decode cX9_changed 4 = .ok (.istore_n 3, 1) := by decide +kernel
theorem dX9_changed_5 : decode cX9_changed 5 = .ok (.iload_n 1, 1) := by decide +kernel
theorem dX9_changed_6 : decode cX9_changed 6 = .ok (.iconst 2, 1) := by decide +kernel
theorem dX9_changed_7 : decode cX9_changed 7 = .ok (.if_icmp .ge 42, 3) := by decide +kernel
theorem dX9_changed_10 : decode cX9_changed 10 = .ok (.aload_n 0, 1) := by decide +kernel
theorem dX9_changed_11 : decode cX9_changed 11 = .ok (.iconst 1, 1) := by decide +kernel
theorem dX9_changed_12 : decode cX9_changed 12 = .ok (.iload_n 2, 1) := by decide +kernel
theorem dX9_changed_13 : decode cX9_changed 13 = .ok (.bipush 127, 2) := by decide +kernel
theorem dX9_changed_15 : decode cX9_changed 15 = .ok (.if_icmp .le 7, 3) := by decide +kernel
theorem dX9_changed_18 : decode cX9_changed 18 = .ok (.iconst 1, 1) := by decide +kernel
theorem dX9_changed_19 : decode cX9_changed 19 = .ok (.goto 4, 3) := by decide +kernel
theorem dX9_changed_22 : decode cX9_changed 22 = .ok (.iconst 0, 1) := by decide +kernel
theorem dX9_changed_23 : decode cX9_changed 23 = .ok (.invokevirtual 110, 3) := by decide +kernel
theorem dX9_changed_26 : decode cX9_changed 26 = .ok (.aload_n 0, 1) := by decide +kernel
theorem dX9_changed_27 : decode cX9_changed 27 = .ok (.iload_n 2, 1) := by decide +kernel
theorem dX9_changed_28 : decode cX9_changed 28 = .ok (.iconst 1, 1) := by decide +kernel
theorem dX9_changed_29 : decode cX9_changed 29 = .ok (.ishl, 1) := by decide +kernel
theorem dX9_changed_30 : decode cX9_changed 30 = .ok (.iload_n 1, 1) := by decide +kernel
theorem dX9_changed_31 : decode cX9_changed 31 = .ok (.iconst 1, 1) := by decide +kernel
theorem dX9_changed_32 : decode cX9_changed 32 = .ok (.if_icmp .ne 7, 3) := by decide +kernel
theorem dX9_changed_35 : decode cX9_changed 35 = .ok (.iload_n 3, 1) := by decide +kernel
theorem dX9_changed_36 : decode cX9_changed 36 = .ok (.goto 4, 3) := by decide +kernel
theorem dX9_changed_39 : decode cX9_changed 39 = .ok (.iconst 0, 1) := by decide +kernel
theorem dX9_changed_40 : decode cX9_changed 40 = .ok (.ior, 1) := by decide +kernel
theorem dX9_changed_41 : decode cX9_changed 41 = .ok (.sipush 255, 3) := by decide +kernel
theorem dX9_changed_44 : decode cX9_changed 44 = .ok (.iand, 1) := by decide +kernel
theorem dX9_changed_45 : decode cX9_changed 45 = .ok (.invokevirtual 142, 3) := by decide +kernel
theorem dX9_changed_48 : decode cX9_changed 48 = .ok (.ireturn, 1) := by decide +kernel
theorem dX9_changed_49 : decode cX9_changed 49 = .ok (.iload_n 1, 1) := by decide +kernel
theorem dX9_changed_50 : decode cX9_changed 50 = .ok (.iconst 4, 1) := by decide +kernel
theorem dX9_changed_51 : decode cX9_changed 51 = .ok (.if_icmp .ge 42, 3) := by decide +kernel
theorem dX9_changed_54 : decode cX9_changed 54 = .ok (.aload_n 0, 1) := by decide +kernel
theorem dX9_changed_55 : decode cX9_changed 55 = .ok (.iconst 1, 1) := by decide +kernel
theorem dX9_changed_56 : decode cX9_changed 56 = .ok (.iload_n 2, 1) := by decide +kernel
theorem dX9_changed_57 : decode cX9_changed 57 = .ok (.iconst 1, 1) := by decide +kernel
theorem dX9_changed_58 : decode cX9_changed 58 = .ok (.iand, 1) := by decide +kernel
theorem dX9_changed_59 : decode cX9_changed 59 = .ok (.iconst 1, 1) := by decide +kernel
theorem dX9_changed_60 : decode cX9_changed 60 = .ok (.if_icmp .ne 7, 3) := by decide +kernel
theorem dX9_changed_63 : decode cX9_changed 63 = .ok (.iconst 1, 1) := by decide +kernel
theorem dX9_changed_64 : decode cX9_changed 64 = .ok (.goto 4, 3) := by decide +kernel
theorem dX9_changed_67 : decode cX9_changed 67 = .ok (.iconst 0, 1) := by decide +kernel
theorem dX9_changed_68 : decode cX9_changed 68 = .ok (.invokevirtual 110, 3) := by decide +kernel
theorem dX9_changed_71 : decode cX9_changed 71 = .ok (.aload_n 0, 1) := by decide +kernel
theorem dX9_changed_72 : decode cX9_changed 72 = .ok (.iload_n 2, 1) := by decide +kernel
theorem dX9_changed_73 : decode cX9_changed 73 = .ok (.iconst 1, 1) := by decide +kernel
theorem dX9_changed_74 : decode cX9_changed 74 = .ok (.ishr, 1) := by decide +kernel
theorem dX9_changed_75 : decode cX9_changed 75 = .ok (.iload_n 1, 1) := by decide +kernel
theorem dX9_changed_76 : decode cX9_changed 76 = .ok (.iconst 3, 1) := by decide +kernel
theorem dX9_changed_77 : decode cX9_changed 77 = .ok (.if_icmp .ne 10, 3) := by decide +kernel
theorem dX9_changed_80 : decode cX9_changed 80 = .ok (.iload_n 3, 1) := by decide +kernel
theorem dX9_changed_81 : decode cX9_changed 81 = .ok (.bipush 7, 2) := by decide +kernel
theorem dX9_changed_83 : decode cX9_changed 83 = .ok (.ishl, 1) := by decide +kernel
theorem dX9_changed_84 : decode cX9_changed 84 = .ok (.goto 4, 3) := by decide +kernel
theorem dX9_changed_87 : decode cX9_changed 87 = .ok (.iconst 0, 1) := by decide +kernel
theorem dX9_changed_88 : decode cX9_changed 88 = .ok (.ior, 1) := by decide +kernel
theorem dX9_changed_89 : decode cX9_changed 89 = .ok (.invokevirtual 142, 3) := by decide +kernel
theorem dX9_changed_92 : decode cX9_changed 92 = .ok (.ireturn, 1) := by decide +kernel
theorem dX9_changed_93 : decode cX9_changed 93 = .ok (.aload_n 0, 1) := by decide +kernel
theorem dX9_changed_94 : decode cX9_changed 94 = .ok (.iload_n 2, 1) := by decide +kernel
theorem dX9_changed_95 : decode cX9_changed 95 = .ok (.iload_n 1, 1) := by decide +kernel
theorem dX9_changed_96 : decode cX9_changed 96 = .ok (.bipush 6, 2) := by decide +kernel
theorem dX9_changed_98 : decode cX9_changed 98 = .ok (.if_icmp .ne 7, 3) := by decide +kernel
theorem dX9_changed_101 : decode cX9_changed 101 = .ok (.iconst (-1), 1) := by decide +kernel
theorem dX9_changed_102 : decode cX9_changed 102 = .ok (.goto 4, 3) := by decide +kernel
theorem dX9_changed_105 : decode cX9_changed 105 = .ok (.iconst 1, 1) := by decide +kernel
theorem dX9_changed_106 : decode cX9_changed 106 = .ok (.iadd, 1) := by decide +kernel
theorem dX9_changed_107 : decode cX9_changed 107 = .ok (.sipush 255, 3) := by decide +kernel
theorem dX9_changed_110 : decode cX9_changed 110 = .ok (.iand, 1) := by decide +kernel
theorem dX9_changed_111 : decode cX9_changed 111 = .ok (.invokevirtual 142, 3) := by decide +kernel
theorem dX9_changed_114 : decode cX9_changed 114 = .ok (.ireturn, 1) := by decide +kernel
theorem dX9_change_0 : decode cX9_change 0 = .ok (.iload_n 2, 1) := by decide +kernel
theorem dX9_change_1 : decode cX9_change 1 = .ok (.bipush 10, 2) := by decide +kernel
theorem dX9_change_3 : decode cX9_change 3 = .ok (.if_icmp .ne 22, 3) := by decide +kernel
theorem dX9_change_6 : decode cX9_change 6 = .ok (.aload_n 0, 1) := by decide +kernel
theorem dX9_change_7 : decode cX9_change 7 = .ok (.getfield 14, 3) := by decide +kernel
theorem dX9_change_10 : decode cX9_change 10 = .ok (.iconst 0, 1) := by decide +kernel
theorem dX9_change_11 : decode cX9_change 11 = .ok (.aload_n 0, 1) := by decide +kernel
theorem dX9_change_12 : decode cX9_change 12 = .ok (.iload_n 1, 1) := by decide +kernel
theorem dX9_change_13 : decode cX9_change 13 = .ok (.aload_n 0, 1) := by decide +kernel
theorem dX9_change_14 : decode cX9_change 14 = .ok (.getfield 14, 3) := by decide +kernel
theorem dX9_change_17 : decode cX9_change 17 = .ok (.iconst 0, 1) := by decide +kernel
theorem dX9_change_18 : decode cX9_change 18 = .ok (.iaload, 1) := by decide +kernel
theorem dX9_change_19 : decode cX9_change 19 = .ok (.invokevirtual 164, 3) := by decide +kernel
theorem dX9_change_22 : decode cX9_change 22 = .ok (.iastore, 1) := by decide +kernel
theorem dX9_change_23 : decode cX9_change 23 = .ok (.iconst 2, 1) := by decide +kernel
theorem dX9_change_24 : decode cX9_change 24 = .ok (.ireturn, 1) := by decide +kernel
theorem dX9_change_25 : decode cX9_change 25 = .ok (.aload_n 0, 1) := by decide +kernel
theorem dX9_change_26 : decode cX9_change 26 = .ok (.iload_n 2, 1) := by decide +kernel
theorem dX9_change_27 : decode cX9_change 27 = .ok (.invokevirtual 130, 3) := by decide +kernel
theorem dX9_change_30 : decode cX9_change 30 = .ok (.istore_n 3, 1) := by decide +kernel
theorem dX9_change_31 : decode cX9_change 31 = .ok (.aload_n 0, 1) := by decide +kernel
theorem dX9_change_32 : decode cX9_change 32 = .ok (.iload_n 3, 1) := by decide +kernel
theorem dX9_change_33 : decode cX9_change 33 = .ok (.aload_n 0, 1) := by decide +kernel
theorem dX9_change_34 : decode cX9_change 34 = .ok (.iload_n 1, 1) := by decide +kernel
theorem dX9_change_35 : decode cX9_change 35 = .ok (.aload_n 0, 1) := by decide +kernel
theorem dX9_change_36 : decode cX9_change 36 = .ok (.iload_n 3, 1) := by decide +kernel
theorem dX9_change_37 : decode cX9_change 37 = .ok (.invokevirtual 100, 3) := by decide +kernel
theorem dX9_change_40 : decode cX9_change 40 = .ok (.invokevirtual 164, 3) := by decide +kernel
theorem dX9_change_43 : decode cX9_change 43 = .ok (.invokevirtual 103, 3) := by decide +kernel
theorem dX9_change_46 : decode cX9_change 46 = .ok (.iload_n 2, 1) := by decide +kernel
theorem dX9_change_47 : decode cX9_change 47 = .ok (.iconst 1, 1) := by decide +kernel
theorem dX9_change_48 : decode cX9_change 48 = .ok (.if_icmp .ne 7, 3) := by decide +kernel
theorem dX9_change_51 : decode cX9_change 51 = .ok (.iconst 5, 1) := by decide +kernel
theorem dX9_change_52 : decode cX9_change 52 = .ok (.goto 32, 3) := by decide +kernel
theorem dX9_change_55 : decode cX9_change 55 = .ok (.iload_n 2, 1) := by decide +kernel
theorem dX9_change_56 : decode cX9_change 56 = .ok (.iconst 5, 1) := by decide +kernel
theorem dX9_change_57 : decode cX9_change 57 = .ok (.if_icmp .eq 8, 3) := by decide +kernel
theorem dX9_change_60 : decode cX9_change 60 = .ok (.bipush 6, 2) := by decide +kernel
theorem dX9_change_62 : decode cX9_change 62 = .ok (.goto 22, 3) := by decide +kernel
theorem dX9_change_65 : decode cX9_change 65 = .ok (.iload_n 1, 1) := by decide +kernel
theorem dX9_change_66 : decode cX9_change 66 = .ok (.iconst 3, 1) := by decide +kernel
theorem dX9_change_67 : decode cX9_change 67 = .ok (.if_icmp .gt 10, 3) := by decide +kernel
theorem dX9_change_70 : decode cX9_change 70 = .ok (.aload_n 0, 1) := by decide +kernel
theorem dX9_change_71 : decode cX9_change 71 = .ok (.getfield 114, 3) := by decide +kernel
theorem dX9_change_74 : decode cX9_change 74 = .ok (.ifCond .eq 8, 3) := by decide +kernel
theorem dX9_change_77 : decode cX9_change 77 = .ok (.bipush 7, 2) := by decide +kernel
theorem dX9_change_79 : decode cX9_change 79 = .ok (.goto 5, 3) := by decide +kernel
theorem dX9_change_82 : decode cX9_change 82 = .ok (.bipush 6, 2) := by decide +kernel
theorem dX9_change_84 : decode cX9_change 84 = .ok (.ireturn, 1) := by decide +kernel
theorem dX9_shifts_0 : decode cX9_shifts 0 = .ok (.iload_n 1, 1) := by decide +kernel
theorem dX9_shifts_1 : decode cX9_shifts 1 = .ok (.iconst 5, 1) := by decide +kernel
theorem dX9_shifts_2 : decode cX9_shifts 2 = .ok (.ishr, 1) := by decide +kernel
theorem dX9_shifts_3 : decode cX9_shifts 3 = .ok (.istore_n 2, 1) := by decide +kernel
theorem dX9_shifts_4 : decode cX9_shifts 4 = .ok (.iload_n 1, 1) := by decide +kernel
theorem dX9_shifts_5 : decode cX9_shifts 5 = .ok (.invokestatic 167, 3) := by decide +kernel
theorem dX9_shifts_8 : decode cX9_shifts 8 = .ok (.istore_n 3, 1) := by decide +kernel
theorem dX9_shifts_9 : decode cX9_shifts 9 = .ok (.iload_n 1, 1) := by decide +kernel
theorem dX9_shifts_10 : decode cX9_shifts 10 = .ok (.bipush 26, 2) := by decide +kernel
theorem dX9_shifts_12 : decode cX9_shifts 12 = .ok (.if_icmp .eq 9, 3) := by decide +kernel
theorem dX9_shifts_15 : decode cX9_shifts 15 = .ok (.iload_n 1, 1) := by decide +kernel
theorem dX9_shifts_16 : decode cX9_shifts 16 = .ok (.bipush 58, 2) := by decide +kernel
theorem dX9_shifts_18 : decode cX9_shifts 18 = .ok (.if_icmp .ne 23, 3) := by decide +kernel
theorem dX9_shifts_21 : decode cX9_shifts 21 = .ok (.aload_n 0, 1) := by decide +kernel
theorem dX9_shifts_22 : decode cX9_shifts 22 = .ok (.iload_n 1, 1) := by decide +kernel
theorem dX9_shifts_23 : decode cX9_shifts 23 = .ok (.bipush 26, 2) := by decide +kernel
theorem dX9_shifts_25 : decode cX9_shifts 25 = .ok (.if_icmp .ne 8, 3) := by decide +kernel
theorem dX9_shifts_28 : decode cX9_shifts 28 = .ok (.bipush 7, 2) := by decide +kernel
theorem dX9_shifts_30 : decode cX9_shifts 30 = .ok (.goto 5, 3) := by decide +kernel
theorem dX9_shifts_33 : decode cX9_shifts 33 = .ok (.bipush 6, 2) := by decide +kernel
theorem dX9_shifts_35 : decode cX9_shifts 35 = .ok (.bipush 10, 2) := by decide +kernel
theorem dX9_shifts_37 : decode cX9_shifts 37 = .ok (.invokevirtual 170, 3) := by decide +kernel
theorem dX9_shifts_40 : decode cX9_shifts 40 = .ok (.ireturn, 1) := by decide +kernel
theorem dX9_shifts_41 : decode cX9_shifts 41 = .ok (.iload_n 2, 1) := by decide +kernel
theorem dX9_shifts_42 : decode cX9_shifts 42 = .ok (.iconst 4, 1) := by decide +kernel
theorem dX9_shifts_43 : decode cX9_shifts 43 = .ok (.if_icmp .eq 15, 3) := by decide +kernel
theorem dX9_shifts_46 : decode cX9_shifts 46 = .ok (.iload_n 2, 1) := by decide +kernel
theorem dX9_shifts_47 : decode cX9_shifts 47 = .ok (.iconst 5, 1) := by decide +kernel
theorem dX9_shifts_48 : decode cX9_shifts 48 = .ok (.if_icmp .eq 10, 3) := by decide +kernel
theorem dX9_shifts_51 : decode cX9_shifts 51 = .ok (.aload_n 0, 1) := by decide +kernel
theorem dX9_shifts_52 : decode cX9_shifts 52 = .ok (.iload_n 2, 1) := by decide +kernel
theorem dX9_shifts_53 : decode cX9_shifts 53 = .ok (.iload_n 3, 1) := by decide +kernel
theorem dX9_shifts_54 : decode cX9_shifts 54 = .ok (.invokevirtual 170, 3) := by decide +kernel
theorem dX9_shifts_57 : decode cX9_shifts 57 = .ok (.ireturn, 1) := by decide +kernel
theorem dX9_shifts_58 : decode cX9_shifts 58 = .ok (.iload_n 3, 1) := by decide +kernel
theorem dX9_shifts_59 : decode cX9_shifts 59 = .ok (.iconst 2, 1) := by decide +kernel
theorem dX9_shifts_60 : decode cX9_shifts 60 = .ok (.if_icmp .ne 7, 3) := by decide +kernel
theorem dX9_shifts_63 : decode cX9_shifts 63 = .ok (.iconst 3, 1) := by decide +kernel
theorem dX9_shifts_64 : decode cX9_shifts 64 = .ok (.goto 14, 3) := by decide +kernel
theorem dX9_shifts_67 : decode cX9_shifts 67 = .ok (.iload_n 3, 1) := by decide +kernel
theorem dX9_shifts_68 : decode cX9_shifts 68 = .ok (.iconst 5, 1) := by decide +kernel
theorem dX9_shifts_69 : decode cX9_shifts 69 = .ok (.if_icmp .ne 8, 3) := by decide +kernel
theorem dX9_shifts_72 : decode cX9_shifts 72 = .ok (.bipush 6, 2) := by decide +kernel
theorem dX9_shifts_74 : decode cX9_shifts 74 = .ok (.goto 4, 3) := by decide +kernel
theorem dX9_shifts_77 : decode cX9_shifts 77 = .ok (.iload_n 3, 1) := by decide +kernel
theorem dX9_shifts_78 : decode cX9_shifts 78 = .ok (.istore_n 3, 1) := by decide +kernel
theorem dX9_shifts_79 : decode cX9_shifts 79 = .ok (.iload_n 2, 1) := by decide +kernel
theorem dX9_shifts_80 : decode cX9_shifts 80 = .ok (.iconst 4, 1) := by decide +kernel
theorem dX9_shifts_81 : decode cX9_shifts 81 = .ok (.if_icmp .ne 23, 3) := by decide +kernel
theorem dX9_shifts_84 : decode cX9_shifts 84 = .ok (.aload_n 0, 1) := by decide +kernel
theorem dX9_shifts_85 : decode cX9_shifts 85 = .ok (.aload_n 0, 1) := by decide +kernel
theorem dX9_shifts_86 : decode cX9_shifts 86 = .ok (.iload_n 3, 1) := by decide +kernel
theorem dX9_shifts_87 : decode cX9_shifts 87 = .ok (.invokevirtual 130, 3) := by decide +kernel
theorem dX9_shifts_90 : decode cX9_shifts 90 = .ok (.aload_n 0, 1) := by decide +kernel
theorem dX9_shifts_91 : decode cX9_shifts 91 = .ok (.getfield 14, 3) := by decide +kernel
theorem dX9_shifts_94 : decode cX9_shifts 94 = .ok (.iconst 1, 1) := by decide +kernel
theorem dX9_shifts_95 : decode cX9_shifts 95 = .ok (.iaload, 1) := by decide +kernel
theorem dX9_shifts_96 : decode cX9_shifts 96 = .ok (.invokevirtual 103, 3) := by decide +kernel
theorem dX9_shifts_99 : decode cX9_shifts 99 = .ok (.iload_n 3, 1) := by decide +kernel
theorem dX9_shifts_100 : decode cX9_shifts 100 = .ok (.invokestatic 136, 3) := by decide +kernel
theorem dX9_shifts_103 : decode cX9_shifts 103 = .ok (.ireturn, 1) := by decide +kernel
theorem dX9_shifts_104 : decode cX9_shifts 104 = .ok (.aload_n 0, 1) := by decide +kernel
theorem dX9_shifts_105 : decode cX9_shifts 105 = .ok (.iconst 1, 1) := by decide +kernel
theorem dX9_shifts_106 : decode cX9_shifts 106 = .ok (.iload_n 3, 1) := by decide +kernel
theorem dX9_shifts_107 : decode cX9_shifts 107 = .ok (.invokevirtual 173, 3) := by decide +kernel
theorem dX9_shifts_110 : decode cX9_shifts 110 = .ok (.ireturn, 1) := by decide +kernel
theorem dX9_loaded_0 : decode cX9_loaded 0 = .ok (.aload_n 0, 1) := by decide +kernel
theorem dX9_loaded_1 : decode cX9_loaded 1 = .ok (.iconst 0, 1) := by decide +kernel
theorem dX9_loaded_2 : decode cX9_loaded 2 = .ok (.putfield 114, 3) := by decide +kernel
theorem dX9_loaded_5 : decode cX9_loaded 5 = .ok (.aload_n 0, 1) := by decide +kernel
theorem dX9_loaded_6 : decode cX9_loaded 6 = .ok (.getfield 14, 3) := by decide +kernel
theorem dX9_loaded_9 : decode cX9_loaded 9 = .ok (.iload_n 1, 1) := by decide +kernel
theorem dX9_loaded_10 : decode cX9_loaded 10 = .ok (.aload_n 0, 1) := by decide +kernel
theorem dX9_loaded_11 : decode cX9_loaded 11 = .ok (.aload_n 0, 1) := by decide +kernel
theorem dX9_loaded_12 : decode cX9_loaded 12 = .ok (.iload_n 2, 1) := by decide +kernel
theorem dX9_loaded_13 : decode cX9_loaded 13 = .ok (.invokevirtual 139, 3) := by decide +kernel
theorem dX9_loaded_16 : decode cX9_loaded 16 = .ok (.invokevirtual 142, 3) := by decide +kernel
theorem dX9_loaded_19 : decode cX9_loaded 19 = .ok (.iastore, 1) := by decide +kernel
theorem dX9_loaded_20 : decode cX9_loaded 20 = .ok (.iload_n 2, 1) := by decide +kernel
theorem dX9_loaded_21 : decode cX9_loaded 21 = .ok (.invokestatic 136, 3) := by decide +kernel
theorem dX9_loaded_24 : decode cX9_loaded 24 = .ok (.aload_n 0, 1) := by decide +kernel
theorem dX9_loaded_25 : decode cX9_loaded 25 = .ok (.getfield 114, 3) := by decide +kernel
theorem dX9_loaded_28 : decode cX9_loaded 28 = .ok (.ifCond .eq 7, 3) := by decide +kernel
theorem dX9_loaded_31 : decode cX9_loaded 31 = .ok (.iconst 1, 1) := by decide +kernel
theorem dX9_loaded_32 : decode cX9_loaded 32 = .ok (.goto 4, 3) := by decide +kernel
theorem dX9_loaded_35 : decode cX9_loaded 35 = .ok (.iconst 0, 1) := by decide +kernel
theorem dX9_loaded_36 : decode cX9_loaded 36 = .ok (.iadd, 1) := by decide +kernel
theorem dX9_loaded_37 : decode cX9_loaded 37 = .ok (.ireturn, 1) := by decide +kernel
theorem dX9_compared_0 : decode cX9_compared 0 = .ok (.aload_n 0, 1) := by decide +kernel
theorem dX9_compared_1 : decode cX9_compared 1 = .ok (.aload_n 0, 1) := by decide +kernel
theorem dX9_compared_2 : decode cX9_compared 2 = .ok (.getfield 14, 3) := by decide +kernel
theorem dX9_compared_5 : decode cX9_compared 5 = .ok (.iload_n 1, 1) := by decide +kernel
theorem dX9_compared_6 : decode cX9_compared 6 = .ok (.iaload, 1) := by decide +kernel
theorem dX9_compared_7 : decode cX9_compared 7 = .ok (.aload_n 0, 1) := by decide +kernel
theorem dX9_compared_8 : decode cX9_compared 8 = .ok (.iload_n 2, 1) := by decide +kernel
theorem dX9_compared_9 : decode cX9_compared 9 = .ok (.invokevirtual 139, 3) := by decide +kernel
theorem dX9_compared_12 : decode cX9_compared 12 = .ok (.invokevirtual 148, 3) := by decide +kernel
theorem dX9_compared_15 : decode cX9_compared 15 = .ok (.iload_n 2, 1) := by decide +kernel
theorem dX9_compared_16 : decode cX9_compared 16 = .ok (.invokestatic 136, 3) := by decide +kernel
theorem dX9_compared_19 : decode cX9_compared 19 = .ok (.ireturn, 1) := by decide +kernel
theorem dX9_zeroed_0 : decode cX9_zeroed 0 = .ok (.aload_n 0, 1) := by decide +kernel
theorem dX9_zeroed_1 : decode cX9_zeroed 1 = .ok (.aload_n 0, 1) := by decide +kernel
theorem dX9_zeroed_2 : decode cX9_zeroed 2 = .ok (.iload_n 1, 1) := by decide +kernel
theorem dX9_zeroed_3 : decode cX9_zeroed 3 = .ok (.invokevirtual 130, 3) := by decide +kernel
theorem dX9_zeroed_6 : decode cX9_zeroed 6 = .ok (.iconst 0, 1) := by decide +kernel
theorem dX9_zeroed_7 : decode cX9_zeroed 7 = .ok (.invokevirtual 103, 3) := by decide +kernel
theorem dX9_zeroed_10 : decode cX9_zeroed 10 = .ok (.iload_n 1, 1) := by decide +kernel
theorem dX9_zeroed_11 : decode cX9_zeroed 11 = .ok (.iconst 5, 1) := by decide +kernel
theorem dX9_zeroed_12 : decode cX9_zeroed 12 = .ok (.if_icmp .ne 7, 3) := by decide +kernel
theorem dX9_zeroed_15 : decode cX9_zeroed 15 = .ok (.iconst 5, 1) := by decide +kernel
theorem dX9_zeroed_16 : decode cX9_zeroed 16 = .ok (.goto 7, 3) := by decide +kernel
theorem dX9_zeroed_19 : decode cX9_zeroed 19 = .ok (.iload_n 1, 1) := by decide +kernel
theorem dX9_zeroed_20 : decode cX9_zeroed 20 = .ok (.invokestatic 136, 3) := by decide +kernel
theorem dX9_zeroed_23 : decode cX9_zeroed 23 = .ok (.ireturn, 1) := by decide +kernel
theorem dX9_bits_0 : decode cX9_bits 0 = .ok (.aload_n 0, 1) := by decide +kernel
theorem dX9_bits_1 : decode cX9_bits 1 = .ok (.iconst 0, 1) := by decide +kernel
theorem dX9_bits_2 : decode cX9_bits 2 = .ok (.putfield 114, 3) := by decide +kernel
theorem dX9_bits_5 : decode cX9_bits 5 = .ok (.aload_n 0, 1) := by decide +kernel
theorem dX9_bits_6 : decode cX9_bits 6 = .ok (.iload_n 1, 1) := by decide +kernel
theorem dX9_bits_7 : decode cX9_bits 7 = .ok (.invokevirtual 139, 3) := by decide +kernel
theorem dX9_bits_10 : decode cX9_bits 10 = .ok (.istore_n 2, 1) := by decide +kernel
theorem dX9_bits_11 : decode cX9_bits 11 = .ok (.aload_n 0, 1) := by decide +kernel
theorem dX9_bits_12 : decode cX9_bits 12 = .ok (.iconst 2, 1) := by decide +kernel
theorem dX9_bits_13 : decode cX9_bits 13 = .ok (.aload_n 0, 1) := by decide +kernel
theorem dX9_bits_14 : decode cX9_bits 14 = .ok (.getfield 14, 3) := by decide +kernel
theorem dX9_bits_17 : decode cX9_bits 17 = .ok (.iconst 0, 1) := by decide +kernel
theorem dX9_bits_18 : decode cX9_bits 18 = .ok (.iaload, 1) := by decide +kernel
theorem dX9_bits_19 : decode cX9_bits 19 = .ok (.iload_n 2, 1) := by decide +kernel
theorem dX9_bits_20 : decode cX9_bits 20 = .ok (.iand, 1) := by decide +kernel
theorem dX9_bits_21 : decode cX9_bits 21 = .ok (.ifCond .ne 7, 3) := by decide +kernel
theorem dX9_bits_24 : decode cX9_bits 24 = .ok (.iconst 1, 1) := by decide +kernel
theorem dX9_bits_25 : decode cX9_bits 25 = .ok (.goto 4, 3) := by decide +kernel
theorem dX9_bits_28 : decode cX9_bits 28 = .ok (.iconst 0, 1) := by decide +kernel
theorem dX9_bits_29 : decode cX9_bits 29 = .ok (.invokevirtual 110, 3) := by decide +kernel
theorem dX9_bits_32 : decode cX9_bits 32 = .ok (.iload_n 1, 1) := by decide +kernel
theorem dX9_bits_33 : decode cX9_bits 33 = .ok (.ifCond .eq 39, 3) := by decide +kernel
theorem dX9_bits_36 : decode cX9_bits 36 = .ok (.aload_n 0, 1) := by decide +kernel
theorem dX9_bits_37 : decode cX9_bits 37 = .ok (.sipush 128, 3) := by decide +kernel
theorem dX9_bits_40 : decode cX9_bits 40 = .ok (.iload_n 2, 1) := by decide +kernel
theorem dX9_bits_41 : decode cX9_bits 41 = .ok (.bipush 127, 2) := by decide +kernel
theorem dX9_bits_43 : decode cX9_bits 43 = .ok (.if_icmp .le 7, 3) := by decide +kernel
theorem dX9_bits_46 : decode cX9_bits 46 = .ok (.iconst 1, 1) := by decide +kernel
theorem dX9_bits_47 : decode cX9_bits 47 = .ok (.goto 4, 3) := by decide +kernel
theorem dX9_bits_50 : decode cX9_bits 50 = .ok (.iconst 0, 1) := by decide +kernel
theorem dX9_bits_51 : decode cX9_bits 51 = .ok (.invokevirtual 110, 3) := by decide +kernel
theorem dX9_bits_54 : decode cX9_bits 54 = .ok (.aload_n 0, 1) := by decide +kernel
theorem dX9_bits_55 : decode cX9_bits 55 = .ok (.bipush 64, 2) := by decide +kernel
theorem dX9_bits_57 : decode cX9_bits 57 = .ok (.iload_n 2, 1) := by decide +kernel
theorem dX9_bits_58 : decode cX9_bits 58 = .ok (.bipush 64, 2) := by decide +kernel
theorem dX9_bits_60 : decode cX9_bits 60 = .ok (.iand, 1) := by decide +kernel
theorem dX9_bits_61 : decode cX9_bits 61 = .ok (.ifCond .eq 7, 3) := by decide +kernel
theorem dX9_bits_64 : decode cX9_bits 64 = .ok (.iconst 1, 1) := by decide +kernel
theorem dX9_bits_65 : decode cX9_bits 65 = .ok (.goto 4, 3) := by decide +kernel
theorem dX9_bits_68 : decode cX9_bits 68 = .ok (.iconst 0, 1) := by decide +kernel
theorem dX9_bits_69 : decode cX9_bits 69 = .ok (.invokevirtual 110, 3) := by decide +kernel
theorem dX9_bits_72 : decode cX9_bits 72 = .ok (.iload_n 1, 1) := by decide +kernel
theorem dX9_bits_73 : decode cX9_bits 73 = .ok (.invokestatic 136, 3) := by decide +kernel
theorem dX9_bits_76 : decode cX9_bits 76 = .ok (.aload_n 0, 1) := by decide +kernel
theorem dX9_bits_77 : decode cX9_bits 77 = .ok (.getfield 114, 3) := by decide +kernel
theorem dX9_bits_80 : decode cX9_bits 80 = .ok (.ifCond .eq 7, 3) := by decide +kernel
theorem dX9_bits_83 : decode cX9_bits 83 = .ok (.iconst 1, 1) := by decide +kernel
theorem dX9_bits_84 : decode cX9_bits 84 = .ok (.goto 4, 3) := by decide +kernel
theorem dX9_bits_87 : decode cX9_bits 87 = .ok (.iconst 0, 1) := by decide +kernel
theorem dX9_bits_88 : decode cX9_bits 88 = .ok (.iadd, 1) := by decide +kernel
theorem dX9_bits_89 : decode cX9_bits 89 = .ok (.ireturn, 1) := by decide +kernel
theorem dX9_marks_0 : decode cX9_marks 0 = .ok (.aload_n 0, 1) := by decide +kernel
theorem dX9_marks_1 : decode cX9_marks 1 = .ok (.iload_n 2, 1) := by decide +kernel
theorem dX9_marks_2 : decode cX9_marks 2 = .ok (.invokevirtual 130, 3) := by decide +kernel
theorem dX9_marks_5 : decode cX9_marks 5 = .ok (.istore_n 3, 1) := by decide +kernel
theorem dX9_marks_6 : decode cX9_marks 6 = .ok (.aload_n 0, 1) := by decide +kernel
theorem dX9_marks_7 : decode cX9_marks 7 = .ok (.iload_n 3, 1) := by decide +kernel
theorem dX9_marks_8 : decode cX9_marks 8 = .ok (.invokevirtual 100, 3) := by decide +kernel
theorem dX9_marks_11 : decode cX9_marks 11 = .ok (.istore 4, 2) := by decide +kernel
theorem dX9_marks_13 : decode cX9_marks 13 = .ok (.aload_n 0, 1) := by decide +kernel
theorem dX9_marks_14 : decode cX9_marks 14 = .ok (.iconst 2, 1) := by decide +kernel
theorem dX9_marks_15 : decode cX9_marks 15 = .ok (.aload_n 0, 1) := by decide +kernel
theorem dX9_marks_16 : decode cX9_marks 16 = .ok (.getfield 14, 3) := by decide +kernel
theorem dX9_marks_19 : decode cX9_marks 19 = .ok (.iconst 0, 1) := by decide +kernel
theorem dX9_marks_20 : decode cX9_marks 20 = .ok (.iaload, 1) := by decide +kernel
theorem dX9_marks_21 : decode cX9_marks 21 = .ok (.iload 4, 2) := by decide +kernel
theorem dX9_marks_23 : decode cX9_marks 23 = .ok (.iand, 1) := by decide +kernel
theorem dX9_marks_24 : decode cX9_marks 24 = .ok (.ifCond .ne 7, 3) := by decide +kernel
theorem dX9_marks_27 : decode cX9_marks 27 = .ok (.iconst 1, 1) := by decide +kernel
theorem dX9_marks_28 : decode cX9_marks 28 = .ok (.goto 4, 3) := by decide +kernel
theorem dX9_marks_31 : decode cX9_marks 31 = .ok (.iconst 0, 1) := by decide +kernel
theorem dX9_marks_32 : decode cX9_marks 32 = .ok (.invokevirtual 110, 3) := by decide +kernel
theorem dX9_marks_35 : decode cX9_marks 35 = .ok (.aload_n 0, 1) := by decide +kernel
theorem dX9_marks_36 : decode cX9_marks 36 = .ok (.iload_n 3, 1) := by decide +kernel
theorem dX9_marks_37 : decode cX9_marks 37 = .ok (.iload_n 1, 1) := by decide +kernel
theorem dX9_marks_38 : decode cX9_marks 38 = .ok (.ifCond .eq 15, 3) := by decide +kernel
theorem dX9_marks_41 : decode cX9_marks 41 = .ok (.iload 4, 2) := by decide +kernel
theorem dX9_marks_43 : decode cX9_marks 43 = .ok (.aload_n 0, 1) := by decide +kernel
theorem dX9_marks_44 : decode cX9_marks 44 = .ok (.getfield 14, 3) := by decide +kernel
theorem dX9_marks_47 : decode cX9_marks 47 = .ok (.iconst 0, 1) := by decide +kernel
theorem dX9_marks_48 : decode cX9_marks 48 = .ok (.iaload, 1) := by decide +kernel
theorem dX9_marks_49 : decode cX9_marks 49 = .ok (.ior, 1) := by decide +kernel
theorem dX9_marks_50 : decode cX9_marks 50 = .ok (.goto 14, 3) := by decide +kernel
theorem dX9_marks_53 : decode cX9_marks 53 = .ok (.iload 4, 2) := by decide +kernel
theorem dX9_marks_55 : decode cX9_marks 55 = .ok (.aload_n 0, 1) := by decide +kernel
theorem dX9_marks_56 : decode cX9_marks 56 = .ok (.getfield 14, 3) := by decide +kernel
theorem dX9_marks_59 : decode cX9_marks 59 = .ok (.iconst 0, 1) := by decide +kernel
theorem dX9_marks_60 : decode cX9_marks 60 = .ok (.iaload, 1) := by decide +kernel
theorem dX9_marks_61 : decode cX9_marks 61 = .ok (.iconst (-1), 1) := by decide +kernel
theorem dX9_marks_62 : decode cX9_marks 62 = .ok (.ixor, 1) := by decide +kernel
theorem dX9_marks_63 : decode cX9_marks 63 = .ok (.iand, 1) := by decide +kernel
theorem dX9_marks_64 : decode cX9_marks 64 = .ok (.invokevirtual 103, 3) := by decide +kernel
theorem dX9_marks_67 : decode cX9_marks 67 = .ok (.iload_n 2, 1) := by decide +kernel
theorem dX9_marks_68 : decode cX9_marks 68 = .ok (.iconst 1, 1) := by decide +kernel
theorem dX9_marks_69 : decode cX9_marks 69 = .ok (.if_icmp .ne 7, 3) := by decide +kernel
theorem dX9_marks_72 : decode cX9_marks 72 = .ok (.iconst 5, 1) := by decide +kernel
theorem dX9_marks_73 : decode cX9_marks 73 = .ok (.goto 5, 3) := by decide +kernel
theorem dX9_marks_76 : decode cX9_marks 76 = .ok (.bipush 6, 2) := by decide +kernel
theorem dX9_marks_78 : decode cX9_marks 78 = .ok (.ireturn, 1) := by decide +kernel
theorem dX9_fours_0 : decode cX9_fours 0 = .ok (.iload_n 1, 1) := by decide +kernel
theorem dX9_fours_1 : decode cX9_fours 1 = .ok (.invokestatic 167, 3) := by decide +kernel
theorem dX9_fours_4 : decode cX9_fours 4 = .ok (.istore_n 2, 1) := by decide +kernel
theorem dX9_fours_5 : decode cX9_fours 5 = .ok (.iload_n 1, 1) := by decide +kernel
theorem dX9_fours_6 : decode cX9_fours 6 = .ok (.iconst 4, 1) := by decide +kernel
theorem dX9_fours_7 : decode cX9_fours 7 = .ok (.ishr, 1) := by decide +kernel
theorem dX9_fours_8 : decode cX9_fours 8 = .ok (.iconst 1, 1) := by decide +kernel
theorem dX9_fours_9 : decode cX9_fours 9 = .ok (.iand, 1) := by decide +kernel
theorem dX9_fours_10 : decode cX9_fours 10 = .ok (.iconst 1, 1) := by decide +kernel
theorem dX9_fours_11 : decode cX9_fours 11 = .ok (.if_icmp .ne 7, 3) := by decide +kernel
theorem dX9_fours_14 : decode cX9_fours 14 = .ok (.iconst 1, 1) := by decide +kernel
theorem dX9_fours_15 : decode cX9_fours 15 = .ok (.goto 4, 3) := by decide +kernel
theorem dX9_fours_18 : decode cX9_fours 18 = .ok (.iconst 0, 1) := by decide +kernel
theorem dX9_fours_19 : decode cX9_fours 19 = .ok (.istore_n 3, 1) := by decide +kernel
theorem dX9_fours_20 : decode cX9_fours 20 = .ok (.iload_n 1, 1) := by decide +kernel
theorem dX9_fours_21 : decode cX9_fours 21 = .ok (.bipush 76, 2) := by decide +kernel
theorem dX9_fours_23 : decode cX9_fours 23 = .ok (.if_icmp .ne 13, 3) := by decide +kernel
theorem dX9_fours_26 : decode cX9_fours 26 = .ok (.aload_n 0, 1) := by decide +kernel
theorem dX9_fours_27 : decode cX9_fours 27 = .ok (.aload_n 0, 1) := by decide +kernel
theorem dX9_fours_28 : decode cX9_fours 28 = .ok (.getfield 120, 3) := by decide +kernel
theorem dX9_fours_31 : decode cX9_fours 31 = .ok (.putfield 176, 3) := by decide +kernel
theorem dX9_fours_34 : decode cX9_fours 34 = .ok (.iconst 3, 1) := by decide +kernel
theorem dX9_fours_35 : decode cX9_fours 35 = .ok (.ireturn, 1) := by decide +kernel
theorem dX9_fours_36 : decode cX9_fours 36 = .ok (.iload_n 1, 1) := by decide +kernel
theorem dX9_fours_37 : decode cX9_fours 37 = .ok (.bipush 108, 2) := by decide +kernel
theorem dX9_fours_39 : decode cX9_fours 39 = .ok (.if_icmp .eq 9, 3) := by decide +kernel
theorem dX9_fours_42 : decode cX9_fours 42 = .ok (.iload_n 1, 1) := by decide +kernel
theorem dX9_fours_43 : decode cX9_fours 43 = .ok (.bipush 124, 2) := by decide +kernel
theorem dX9_fours_45 : decode cX9_fours 45 = .ok (.if_icmp .ne 38, 3) := by decide +kernel
theorem dX9_fours_48 : decode cX9_fours 48 = .ok (.aload_n 0, 1) := by decide +kernel
theorem dX9_fours_49 : decode cX9_fours 49 = .ok (.aload_n 0, 1) := by decide +kernel
theorem dX9_fours_50 : decode cX9_fours 50 = .ok (.iload_n 1, 1) := by decide +kernel
theorem dX9_fours_51 : decode cX9_fours 51 = .ok (.bipush 108, 2) := by decide +kernel
theorem dX9_fours_53 : decode cX9_fours 53 = .ok (.if_icmp .ne 10, 3) := by decide +kernel
theorem dX9_fours_56 : decode cX9_fours 56 = .ok (.aload_n 0, 1) := by decide +kernel
theorem dX9_fours_57 : decode cX9_fours 57 = .ok (.getfield 120, 3) := by decide +kernel
theorem dX9_fours_60 : decode cX9_fours 60 = .ok (.goto 14, 3) := by decide +kernel
theorem dX9_fours_63 : decode cX9_fours 63 = .ok (.aload_n 0, 1) := by decide +kernel
theorem dX9_fours_64 : decode cX9_fours 64 = .ok (.getfield 120, 3) := by decide +kernel
theorem dX9_fours_67 : decode cX9_fours 67 = .ok (.aload_n 0, 1) := by decide +kernel
theorem dX9_fours_68 : decode cX9_fours 68 = .ok (.getfield 14, 3) := by decide +kernel
theorem dX9_fours_71 : decode cX9_fours 71 = .ok (.iconst 1, 1) := by decide +kernel
theorem dX9_fours_72 : decode cX9_fours 72 = .ok (.iaload, 1) := by decide +kernel
theorem dX9_fours_73 : decode cX9_fours 73 = .ok (.iadd, 1) := by decide +kernel
theorem dX9_fours_74 : decode cX9_fours 74 = .ok (.invokevirtual 179, 3) := by decide +kernel
theorem dX9_fours_77 : decode cX9_fours 77 = .ok (.putfield 176, 3) := by decide +kernel
theorem dX9_fours_80 : decode cX9_fours 80 = .ok (.bipush 6, 2) := by decide +kernel
theorem dX9_fours_82 : decode cX9_fours 82 = .ok (.ireturn, 1) := by decide +kernel
theorem dX9_fours_83 : decode cX9_fours 83 = .ok (.iload_n 1, 1) := by decide +kernel
theorem dX9_fours_84 : decode cX9_fours 84 = .ok (.iconst 5, 1) := by decide +kernel
theorem dX9_fours_85 : decode cX9_fours 85 = .ok (.ishr, 1) := by decide +kernel
theorem dX9_fours_86 : decode cX9_fours 86 = .ok (.tableswitch 145 0 5 #[38, 70, 122, 76, 82, 115], 38) := by decide +kernel
theorem dX9_fours_124 : decode cX9_fours 124 = .ok (.aload_n 0, 1) := by decide +kernel
theorem dX9_fours_125 : decode cX9_fours 125 = .ok (.iload_n 3, 1) := by decide +kernel
theorem dX9_fours_126 : decode cX9_fours 126 = .ok (.ifCond .ne 7, 3) := by decide +kernel
theorem dX9_fours_129 : decode cX9_fours 129 = .ok (.iconst 1, 1) := by decide +kernel
theorem dX9_fours_130 : decode cX9_fours 130 = .ok (.goto 4, 3) := by decide +kernel
theorem dX9_fours_133 : decode cX9_fours 133 = .ok (.iconst 0, 1) := by decide +kernel
theorem dX9_fours_134 : decode cX9_fours 134 = .ok (.iload_n 3, 1) := by decide +kernel
theorem dX9_fours_135 : decode cX9_fours 135 = .ok (.ifCond .eq 16, 3) := by decide +kernel
theorem dX9_fours_138 : decode cX9_fours 138 = .ok (.iload_n 2, 1) := by decide +kernel
theorem dX9_fours_139 : decode cX9_fours 139 = .ok (.iconst 2, 1) := by decide +kernel
theorem dX9_fours_140 : decode cX9_fours 140 = .ok (.if_icmp .ne 7, 3) := by decide +kernel
theorem dX9_fours_143 : decode cX9_fours 143 = .ok (.iconst 1, 1) := by decide +kernel
theorem dX9_fours_144 : decode cX9_fours 144 = .ok (.goto 8, 3) := by decide +kernel
theorem dX9_fours_147 : decode cX9_fours 147 = .ok (.iconst 4, 1) := by decide +kernel
theorem dX9_fours_148 : decode cX9_fours 148 = .ok (.goto 4, 3) := by decide +kernel
theorem dX9_fours_151 : decode cX9_fours 151 = .ok (.iload_n 2, 1) := by decide +kernel
theorem dX9_fours_152 : decode cX9_fours 152 = .ok (.invokevirtual 182, 3) := by decide +kernel
theorem dX9_fours_155 : decode cX9_fours 155 = .ok (.ireturn, 1) := by decide +kernel
theorem dX9_fours_156 : decode cX9_fours 156 = .ok (.aload_n 0, 1) := by decide +kernel
theorem dX9_fours_157 : decode cX9_fours 157 = .ok (.iload_n 2, 1) := by decide +kernel
theorem dX9_fours_158 : decode cX9_fours 158 = .ok (.invokevirtual 186, 3) := by decide +kernel
theorem dX9_fours_161 : decode cX9_fours 161 = .ok (.ireturn, 1) := by decide +kernel
theorem dX9_fours_162 : decode cX9_fours 162 = .ok (.aload_n 0, 1) := by decide +kernel
theorem dX9_fours_163 : decode cX9_fours 163 = .ok (.iload_n 2, 1) := by decide +kernel
theorem dX9_fours_164 : decode cX9_fours 164 = .ok (.invokevirtual 189, 3) := by decide +kernel
theorem dX9_fours_167 : decode cX9_fours 167 = .ok (.ireturn, 1) := by decide +kernel
theorem dX9_fours_168 : decode cX9_fours 168 = .ok (.iload_n 1, 1) := by decide +kernel
theorem dX9_fours_169 : decode cX9_fours 169 = .ok (.sipush 156, 3) := by decide +kernel
theorem dX9_fours_172 : decode cX9_fours 172 = .ok (.if_icmp .ne 9, 3) := by decide +kernel
theorem dX9_fours_175 : decode cX9_fours 175 = .ok (.aload_n 0, 1) := by decide +kernel
theorem dX9_fours_176 : decode cX9_fours 176 = .ok (.iconst 4, 1) := by decide +kernel
theorem dX9_fours_177 : decode cX9_fours 177 = .ok (.invokevirtual 189, 3) := by decide +kernel
theorem dX9_fours_180 : decode cX9_fours 180 = .ok (.ireturn, 1) := by decide +kernel
theorem dX9_fours_181 : decode cX9_fours 181 = .ok (.aload_n 0, 1) := by decide +kernel
theorem dX9_fours_182 : decode cX9_fours 182 = .ok (.aload_n 0, 1) := by decide +kernel
theorem dX9_fours_183 : decode cX9_fours 183 = .ok (.iload_n 2, 1) := by decide +kernel
theorem dX9_fours_184 : decode cX9_fours 184 = .ok (.invokevirtual 130, 3) := by decide +kernel
theorem dX9_fours_187 : decode cX9_fours 187 = .ok (.aload_n 0, 1) := by decide +kernel
theorem dX9_fours_188 : decode cX9_fours 188 = .ok (.getfield 14, 3) := by decide +kernel
theorem dX9_fours_191 : decode cX9_fours 191 = .ok (.iconst 2, 1) := by decide +kernel
theorem dX9_fours_192 : decode cX9_fours 192 = .ok (.iaload, 1) := by decide +kernel
theorem dX9_fours_193 : decode cX9_fours 193 = .ok (.invokevirtual 103, 3) := by decide +kernel
theorem dX9_fours_196 : decode cX9_fours 196 = .ok (.iload_n 2, 1) := by decide +kernel
theorem dX9_fours_197 : decode cX9_fours 197 = .ok (.invokestatic 136, 3) := by decide +kernel
theorem dX9_fours_200 : decode cX9_fours 200 = .ok (.ireturn, 1) := by decide +kernel
theorem dX9_fours_201 : decode cX9_fours 201 = .ok (.aload_n 0, 1) := by decide +kernel
theorem dX9_fours_202 : decode cX9_fours 202 = .ok (.iconst 2, 1) := by decide +kernel
theorem dX9_fours_203 : decode cX9_fours 203 = .ok (.iload_n 2, 1) := by decide +kernel
theorem dX9_fours_204 : decode cX9_fours 204 = .ok (.invokevirtual 173, 3) := by decide +kernel
theorem dX9_fours_207 : decode cX9_fours 207 = .ok (.ireturn, 1) := by decide +kernel
theorem dX9_fours_208 : decode cX9_fours 208 = .ok (.iload_n 1, 1) := by decide +kernel
theorem dX9_fours_209 : decode cX9_fours 209 = .ok (.bipush 68, 2) := by decide +kernel
theorem dX9_fours_211 : decode cX9_fours 211 = .ok (.if_icmp .ne 7, 3) := by decide +kernel
theorem dX9_fours_214 : decode cX9_fours 214 = .ok (.iconst 3, 1) := by decide +kernel
theorem dX9_fours_215 : decode cX9_fours 215 = .ok (.goto 15, 3) := by decide +kernel
theorem dX9_fours_218 : decode cX9_fours 218 = .ok (.iload_n 1, 1) := by decide +kernel
theorem dX9_fours_219 : decode cX9_fours 219 = .ok (.bipush 84, 2) := by decide +kernel
theorem dX9_fours_221 : decode cX9_fours 221 = .ok (.if_icmp .ne 7, 3) := by decide +kernel
theorem dX9_fours_224 : decode cX9_fours 224 = .ok (.iconst 4, 1) := by decide +kernel
theorem dX9_fours_225 : decode cX9_fours 225 = .ok (.goto 5, 3) := by decide +kernel
theorem dX9_fours_228 : decode cX9_fours 228 = .ok (.bipush 8, 2) := by decide +kernel
theorem dX9_fours_230 : decode cX9_fours 230 = .ok (.ireturn, 1) := by decide +kernel
theorem dX9_fours_231 : decode cX9_fours 231 = .ok (.iload_n 3, 1) := by decide +kernel
theorem dX9_fours_232 : decode cX9_fours 232 = .ok (.ifCond .eq 7, 3) := by decide +kernel
theorem dX9_fours_235 : decode cX9_fours 235 = .ok (.iconst 4, 1) := by decide +kernel
theorem dX9_fours_236 : decode cX9_fours 236 = .ok (.goto 21, 3) := by decide +kernel
theorem dX9_fours_239 : decode cX9_fours 239 = .ok (.aload_n 0, 1) := by decide +kernel
theorem dX9_fours_240 : decode cX9_fours 240 = .ok (.iload_n 1, 1) := by decide +kernel
theorem dX9_fours_241 : decode cX9_fours 241 = .ok (.iconst 5, 1) := by decide +kernel
theorem dX9_fours_242 : decode cX9_fours 242 = .ok (.ishr, 1) := by decide +kernel
theorem dX9_fours_243 : decode cX9_fours 243 = .ok (.bipush 6, 2) := by decide +kernel
theorem dX9_fours_245 : decode cX9_fours 245 = .ok (.if_icmp .ne 7, 3) := by decide +kernel
theorem dX9_fours_248 : decode cX9_fours 248 = .ok (.iconst 2, 1) := by decide +kernel
theorem dX9_fours_249 : decode cX9_fours 249 = .ok (.goto 4, 3) := by decide +kernel
theorem dX9_fours_252 : decode cX9_fours 252 = .ok (.iconst 1, 1) := by decide +kernel
theorem dX9_fours_253 : decode cX9_fours 253 = .ok (.iload_n 2, 1) := by decide +kernel
theorem dX9_fours_254 : decode cX9_fours 254 = .ok (.invokevirtual 192, 3) := by decide +kernel
theorem dX9_fours_257 : decode cX9_fours 257 = .ok (.ireturn, 1) := by decide +kernel
theorem dX9_jump_0 : decode cX9_jump 0 = .ok (.iload_n 1, 1) := by decide +kernel
theorem dX9_jump_1 : decode cX9_jump 1 = .ok (.ifCond .ne 5, 3) := by decide +kernel
theorem dX9_jump_4 : decode cX9_jump 4 = .ok (.iload_n 3, 1) := by decide +kernel
theorem dX9_jump_5 : decode cX9_jump 5 = .ok (.ireturn, 1) := by decide +kernel
theorem dX9_jump_6 : decode cX9_jump 6 = .ok (.aload_n 0, 1) := by decide +kernel
theorem dX9_jump_7 : decode cX9_jump 7 = .ok (.getfield 176, 3) := by decide +kernel
theorem dX9_jump_10 : decode cX9_jump 10 = .ok (.istore 4, 2) := by decide +kernel
theorem dX9_jump_12 : decode cX9_jump 12 = .ok (.aload_n 0, 1) := by decide +kernel
theorem dX9_jump_13 : decode cX9_jump 13 = .ok (.aload_n 0, 1) := by decide +kernel
theorem dX9_jump_14 : decode cX9_jump 14 = .ok (.getfield 176, 3) := by decide +kernel
theorem dX9_jump_17 : decode cX9_jump 17 = .ok (.iload_n 2, 1) := by decide +kernel
theorem dX9_jump_18 : decode cX9_jump 18 = .ok (.bipush 127, 2) := by decide +kernel
theorem dX9_jump_20 : decode cX9_jump 20 = .ok (.if_icmp .le 11, 3) := by decide +kernel
theorem dX9_jump_23 : decode cX9_jump 23 = .ok (.iload_n 2, 1) := by decide +kernel
theorem dX9_jump_24 : decode cX9_jump 24 = .ok (.sipush 256, 3) := by decide +kernel
theorem dX9_jump_27 : decode cX9_jump 27 = .ok (.isub, 1) := by decide +kernel
theorem dX9_jump_28 : decode cX9_jump 28 = .ok (.goto 4, 3) := by decide +kernel
theorem dX9_jump_31 : decode cX9_jump 31 = .ok (.iload_n 2, 1) := by decide +kernel
theorem dX9_jump_32 : decode cX9_jump 32 = .ok (.iadd, 1) := by decide +kernel
theorem dX9_jump_33 : decode cX9_jump 33 = .ok (.ldc 36, 2) := by decide +kernel
theorem dX9_jump_35 : decode cX9_jump 35 = .ok (.iand, 1) := by decide +kernel
theorem dX9_jump_36 : decode cX9_jump 36 = .ok (.putfield 176, 3) := by decide +kernel
theorem dX9_jump_39 : decode cX9_jump 39 = .ok (.iload_n 3, 1) := by decide +kernel
theorem dX9_jump_40 : decode cX9_jump 40 = .ok (.aload_n 0, 1) := by decide +kernel
theorem dX9_jump_41 : decode cX9_jump 41 = .ok (.getfield 176, 3) := by decide +kernel
theorem dX9_jump_44 : decode cX9_jump 44 = .ok (.bipush 8, 2) := by decide +kernel
theorem dX9_jump_46 : decode cX9_jump 46 = .ok (.ishr, 1) := by decide +kernel
theorem dX9_jump_47 : decode cX9_jump 47 = .ok (.iload 4, 2) := by decide +kernel
theorem dX9_jump_49 : decode cX9_jump 49 = .ok (.bipush 8, 2) := by decide +kernel
theorem dX9_jump_51 : decode cX9_jump 51 = .ok (.ishr, 1) := by decide +kernel
theorem dX9_jump_52 : decode cX9_jump 52 = .ok (.if_icmp .ne 7, 3) := by decide +kernel
theorem dX9_jump_55 : decode cX9_jump 55 = .ok (.iconst 1, 1) := by decide +kernel
theorem dX9_jump_56 : decode cX9_jump 56 = .ok (.goto 4, 3) := by decide +kernel
theorem dX9_jump_59 : decode cX9_jump 59 = .ok (.iconst 2, 1) := by decide +kernel
theorem dX9_jump_60 : decode cX9_jump 60 = .ok (.iadd, 1) := by decide +kernel
theorem dX9_jump_61 : decode cX9_jump 61 = .ok (.ireturn, 1) := by decide +kernel
theorem dX9_branch_0 : decode cX9_branch 0 = .ok (.iload_n 1, 1) := by decide +kernel
theorem dX9_branch_1 : decode cX9_branch 1 = .ok (.bipush 6, 2) := by decide +kernel
theorem dX9_branch_3 : decode cX9_branch 3 = .ok (.ishr, 1) := by decide +kernel
theorem dX9_branch_4 : decode cX9_branch 4 = .ok (.ifCond .ne 9, 3) := by decide +kernel
theorem dX9_branch_7 : decode cX9_branch 7 = .ok (.sipush 128, 3) := by decide +kernel
theorem dX9_branch_10 : decode cX9_branch 10 = .ok (.goto 29, 3) := by decide +kernel
theorem dX9_branch_13 : decode cX9_branch 13 = .ok (.iload_n 1, 1) := by decide +kernel
theorem dX9_branch_14 : decode cX9_branch 14 = .ok (.bipush 6, 2) := by decide +kernel
theorem dX9_branch_16 : decode cX9_branch 16 = .ok (.ishr, 1) := by decide +kernel
theorem dX9_branch_17 : decode cX9_branch 17 = .ok (.iconst 1, 1) := by decide +kernel
theorem dX9_branch_18 : decode cX9_branch 18 = .ok (.if_icmp .ne 8, 3) := by decide +kernel
theorem dX9_branch_21 : decode cX9_branch 21 = .ok (.bipush 64, 2) := by decide +kernel
theorem dX9_branch_23 : decode cX9_branch 23 = .ok (.goto 16, 3) := by decide +kernel
theorem dX9_branch_26 : decode cX9_branch 26 = .ok (.iload_n 1, 1) := by decide +kernel
theorem dX9_branch_27 : decode cX9_branch 27 = .ok (.bipush 6, 2) := by decide +kernel
theorem dX9_branch_29 : decode cX9_branch 29 = .ok (.ishr, 1) := by decide +kernel
theorem dX9_branch_30 : decode cX9_branch 30 = .ok (.iconst 2, 1) := by decide +kernel
theorem dX9_branch_31 : decode cX9_branch 31 = .ok (.if_icmp .ne 7, 3) := by decide +kernel
theorem dX9_branch_34 : decode cX9_branch 34 = .ok (.iconst 1, 1) := by decide +kernel
theorem dX9_branch_35 : decode cX9_branch 35 = .ok (.goto 4, 3) := by decide +kernel
theorem dX9_branch_38 : decode cX9_branch 38 = .ok (.iconst 2, 1) := by decide +kernel
theorem dX9_branch_39 : decode cX9_branch 39 = .ok (.istore_n 2, 1) := by decide +kernel
theorem dX9_branch_40 : decode cX9_branch 40 = .ok (.iload_n 1, 1) := by decide +kernel
theorem dX9_branch_41 : decode cX9_branch 41 = .ok (.iconst 5, 1) := by decide +kernel
theorem dX9_branch_42 : decode cX9_branch 42 = .ok (.ishr, 1) := by decide +kernel
theorem dX9_branch_43 : decode cX9_branch 43 = .ok (.iconst 1, 1) := by decide +kernel
theorem dX9_branch_44 : decode cX9_branch 44 = .ok (.iand, 1) := by decide +kernel
theorem dX9_branch_45 : decode cX9_branch 45 = .ok (.iconst 1, 1) := by decide +kernel
theorem dX9_branch_46 : decode cX9_branch 46 = .ok (.if_icmp .ne 7, 3) := by decide +kernel
theorem dX9_branch_49 : decode cX9_branch 49 = .ok (.iconst 1, 1) := by decide +kernel
theorem dX9_branch_50 : decode cX9_branch 50 = .ok (.goto 4, 3) := by decide +kernel
theorem dX9_branch_53 : decode cX9_branch 53 = .ok (.iconst 0, 1) := by decide +kernel
theorem dX9_branch_54 : decode cX9_branch 54 = .ok (.istore_n 3, 1) := by decide +kernel
theorem dX9_branch_55 : decode cX9_branch 55 = .ok (.aload_n 0, 1) := by decide +kernel
theorem dX9_branch_56 : decode cX9_branch 56 = .ok (.iload_n 1, 1) := by decide +kernel
theorem dX9_branch_57 : decode cX9_branch 57 = .ok (.sipush 128, 3) := by decide +kernel
theorem dX9_branch_60 : decode cX9_branch 60 = .ok (.if_icmp .eq 12, 3) := by decide +kernel
theorem dX9_branch_63 : decode cX9_branch 63 = .ok (.aload_n 0, 1) := by decide +kernel
theorem dX9_branch_64 : decode cX9_branch 64 = .ok (.iload_n 2, 1) := by decide +kernel
theorem dX9_branch_65 : decode cX9_branch 65 = .ok (.invokevirtual 157, 3) := by decide +kernel
theorem dX9_branch_68 : decode cX9_branch 68 = .ok (.iload_n 3, 1) := by decide +kernel
theorem dX9_branch_69 : decode cX9_branch 69 = .ok (.if_icmp .ne 7, 3) := by decide +kernel
theorem dX9_branch_72 : decode cX9_branch 72 = .ok (.iconst 1, 1) := by decide +kernel
theorem dX9_branch_73 : decode cX9_branch 73 = .ok (.goto 4, 3) := by decide +kernel
theorem dX9_branch_76 : decode cX9_branch 76 = .ok (.iconst 0, 1) := by decide +kernel
theorem dX9_branch_77 : decode cX9_branch 77 = .ok (.aload_n 0, 1) := by decide +kernel
theorem dX9_branch_78 : decode cX9_branch 78 = .ok (.getfield 117, 3) := by decide +kernel
theorem dX9_branch_81 : decode cX9_branch 81 = .ok (.iconst 2, 1) := by decide +kernel
theorem dX9_branch_82 : decode cX9_branch 82 = .ok (.invokevirtual 195, 3) := by decide +kernel
theorem dX9_branch_85 : decode cX9_branch 85 = .ok (.ireturn, 1) := by decide +kernel
theorem dX9_single_0 : decode cX9_single 0 = .ok (.iconst 1, 1) := by decide +kernel
theorem dX9_single_1 : decode cX9_single 1 = .ok (.iload_n 1, 1) := by decide +kernel
theorem dX9_single_2 : decode cX9_single 2 = .ok (.iconst 4, 1) := by decide +kernel
theorem dX9_single_3 : decode cX9_single 3 = .ok (.ishr, 1) := by decide +kernel
theorem dX9_single_4 : decode cX9_single 4 = .ok (.bipush 7, 2) := by decide +kernel
theorem dX9_single_6 : decode cX9_single 6 = .ok (.iand, 1) := by decide +kernel
theorem dX9_single_7 : decode cX9_single 7 = .ok (.ishl, 1) := by decide +kernel
theorem dX9_single_8 : decode cX9_single 8 = .ok (.istore_n 2, 1) := by decide +kernel
theorem dX9_single_9 : decode cX9_single 9 = .ok (.iload_n 1, 1) := by decide +kernel
theorem dX9_single_10 : decode cX9_single 10 = .ok (.bipush 127, 2) := by decide +kernel
theorem dX9_single_12 : decode cX9_single 12 = .ok (.if_icmp .le 7, 3) := by decide +kernel
theorem dX9_single_15 : decode cX9_single 15 = .ok (.iconst 1, 1) := by decide +kernel
theorem dX9_single_16 : decode cX9_single 16 = .ok (.goto 4, 3) := by decide +kernel
theorem dX9_single_19 : decode cX9_single 19 = .ok (.iconst 0, 1) := by decide +kernel
theorem dX9_single_20 : decode cX9_single 20 = .ok (.istore_n 3, 1) := by decide +kernel
theorem dX9_single_21 : decode cX9_single 21 = .ok (.aload_n 0, 1) := by decide +kernel
theorem dX9_single_22 : decode cX9_single 22 = .ok (.aload_n 0, 1) := by decide +kernel
theorem dX9_single_23 : decode cX9_single 23 = .ok (.getfield 117, 3) := by decide +kernel
theorem dX9_single_26 : decode cX9_single 26 = .ok (.invokevirtual 100, 3) := by decide +kernel
theorem dX9_single_29 : decode cX9_single 29 = .ok (.istore 4, 2) := by decide +kernel
theorem dX9_single_31 : decode cX9_single 31 = .ok (.iload_n 1, 1) := by decide +kernel
theorem dX9_single_32 : decode cX9_single 32 = .ok (.bipush 15, 2) := by decide +kernel
theorem dX9_single_34 : decode cX9_single 34 = .ok (.iand, 1) := by decide +kernel
theorem dX9_single_35 : decode cX9_single 35 = .ok (.bipush 15, 2) := by decide +kernel
theorem dX9_single_37 : decode cX9_single 37 = .ok (.if_icmp .ne 37, 3) := by decide +kernel
theorem dX9_single_40 : decode cX9_single 40 = .ok (.aload_n 0, 1) := by decide +kernel
theorem dX9_single_41 : decode cX9_single 41 = .ok (.iload 4, 2) := by decide +kernel
theorem dX9_single_43 : decode cX9_single 43 = .ok (.iload_n 2, 1) := by decide +kernel
theorem dX9_single_44 : decode cX9_single 44 = .ok (.iand, 1) := by decide +kernel
theorem dX9_single_45 : decode cX9_single 45 = .ok (.ifCond .eq 7, 3) := by decide +kernel
theorem dX9_single_48 : decode cX9_single 48 = .ok (.iconst 1, 1) := by decide +kernel
theorem dX9_single_49 : decode cX9_single 49 = .ok (.goto 4, 3) := by decide +kernel
theorem dX9_single_52 : decode cX9_single 52 = .ok (.iconst 0, 1) := by decide +kernel
theorem dX9_single_53 : decode cX9_single 53 = .ok (.iload_n 3, 1) := by decide +kernel
theorem dX9_single_54 : decode cX9_single 54 = .ok (.if_icmp .ne 7, 3) := by decide +kernel
theorem dX9_single_57 : decode cX9_single 57 = .ok (.iconst 1, 1) := by decide +kernel
theorem dX9_single_58 : decode cX9_single 58 = .ok (.goto 4, 3) := by decide +kernel
theorem dX9_single_61 : decode cX9_single 61 = .ok (.iconst 0, 1) := by decide +kernel
theorem dX9_single_62 : decode cX9_single 62 = .ok (.aload_n 0, 1) := by decide +kernel
theorem dX9_single_63 : decode cX9_single 63 = .ok (.getfield 120, 3) := by decide +kernel
theorem dX9_single_66 : decode cX9_single 66 = .ok (.bipush 8, 2) := by decide +kernel
theorem dX9_single_68 : decode cX9_single 68 = .ok (.ishr, 1) := by decide +kernel
theorem dX9_single_69 : decode cX9_single 69 = .ok (.iconst 5, 1) := by decide +kernel
theorem dX9_single_70 : decode cX9_single 70 = .ok (.invokevirtual 195, 3) := by decide +kernel
theorem dX9_single_73 : decode cX9_single 73 = .ok (.ireturn, 1) := by decide +kernel
theorem dX9_single_74 : decode cX9_single 74 = .ok (.aload_n 0, 1) := by decide +kernel
theorem dX9_single_75 : decode cX9_single 75 = .ok (.aload_n 0, 1) := by decide +kernel
theorem dX9_single_76 : decode cX9_single 76 = .ok (.getfield 117, 3) := by decide +kernel
theorem dX9_single_79 : decode cX9_single 79 = .ok (.iload_n 3, 1) := by decide +kernel
theorem dX9_single_80 : decode cX9_single 80 = .ok (.ifCond .eq 10, 3) := by decide +kernel
theorem dX9_single_83 : decode cX9_single 83 = .ok (.iload 4, 2) := by decide +kernel
theorem dX9_single_85 : decode cX9_single 85 = .ok (.iload_n 2, 1) := by decide +kernel
theorem dX9_single_86 : decode cX9_single 86 = .ok (.ior, 1) := by decide +kernel
theorem dX9_single_87 : decode cX9_single 87 = .ok (.goto 9, 3) := by decide +kernel
theorem dX9_single_90 : decode cX9_single 90 = .ok (.iload 4, 2) := by decide +kernel
theorem dX9_single_92 : decode cX9_single 92 = .ok (.iload_n 2, 1) := by decide +kernel
theorem dX9_single_93 : decode cX9_single 93 = .ok (.iconst (-1), 1) := by decide +kernel
theorem dX9_single_94 : decode cX9_single 94 = .ok (.ixor, 1) := by decide +kernel
theorem dX9_single_95 : decode cX9_single 95 = .ok (.iand, 1) := by decide +kernel
theorem dX9_single_96 : decode cX9_single 96 = .ok (.invokevirtual 103, 3) := by decide +kernel
theorem dX9_single_99 : decode cX9_single 99 = .ok (.iconst 5, 1) := by decide +kernel
theorem dX9_single_100 : decode cX9_single 100 = .ok (.ireturn, 1) := by decide +kernel
theorem dX9_interrupt_0 : decode cX9_interrupt 0 = .ok (.aload_n 0, 1) := by decide +kernel
theorem dX9_interrupt_1 : decode cX9_interrupt 1 = .ok (.aload_n 0, 1) := by decide +kernel
theorem dX9_interrupt_2 : decode cX9_interrupt 2 = .ok (.getfield 176, 3) := by decide +kernel
theorem dX9_interrupt_5 : decode cX9_interrupt 5 = .ok (.bipush 8, 2) := by decide +kernel
theorem dX9_interrupt_7 : decode cX9_interrupt 7 = .ok (.ishr, 1) := by decide +kernel
theorem dX9_interrupt_8 : decode cX9_interrupt 8 = .ok (.invokevirtual 199, 3) := by decide +kernel
theorem dX9_interrupt_11 : decode cX9_interrupt 11 = .ok (.aload_n 0, 1) := by decide +kernel
theorem dX9_interrupt_12 : decode cX9_interrupt 12 = .ok (.aload_n 0, 1) := by decide +kernel
theorem dX9_interrupt_13 : decode cX9_interrupt 13 = .ok (.getfield 176, 3) := by decide +kernel
theorem dX9_interrupt_16 : decode cX9_interrupt 16 = .ok (.sipush 255, 3) := by decide +kernel
theorem dX9_interrupt_19 : decode cX9_interrupt 19 = .ok (.iand, 1) := by decide +kernel
theorem dX9_interrupt_20 : decode cX9_interrupt 20 = .ok (.invokevirtual 199, 3) := by decide +kernel
theorem dX9_interrupt_23 : decode cX9_interrupt 23 = .ok (.aload_n 0, 1) := by decide +kernel
theorem dX9_interrupt_24 : decode cX9_interrupt 24 = .ok (.iload_n 2, 1) := by decide +kernel
theorem dX9_interrupt_25 : decode cX9_interrupt 25 = .ok (.ifCond .eq 13, 3) := by decide +kernel
theorem dX9_interrupt_28 : decode cX9_interrupt 28 = .ok (.aload_n 0, 1) := by decide +kernel
theorem dX9_interrupt_29 : decode cX9_interrupt 29 = .ok (.getfield 107, 3) := by decide +kernel
theorem dX9_interrupt_32 : decode cX9_interrupt 32 = .ok (.bipush 48, 2) := by decide +kernel
theorem dX9_interrupt_34 : decode cX9_interrupt 34 = .ok (.ior, 1) := by decide +kernel
theorem dX9_interrupt_35 : decode cX9_interrupt 35 = .ok (.goto 13, 3) := by decide +kernel
theorem dX9_interrupt_38 : decode cX9_interrupt 38 = .ok (.aload_n 0, 1) := by decide +kernel
theorem dX9_interrupt_39 : decode cX9_interrupt 39 = .ok (.getfield 107, 3) := by decide +kernel
theorem dX9_interrupt_42 : decode cX9_interrupt 42 = .ok (.bipush (-17), 2) := by decide +kernel
theorem dX9_interrupt_44 : decode cX9_interrupt 44 = .ok (.iand, 1) := by decide +kernel
theorem dX9_interrupt_45 : decode cX9_interrupt 45 = .ok (.bipush 32, 2) := by decide +kernel
theorem dX9_interrupt_47 : decode cX9_interrupt 47 = .ok (.ior, 1) := by decide +kernel
theorem dX9_interrupt_48 : decode cX9_interrupt 48 = .ok (.invokevirtual 199, 3) := by decide +kernel
theorem dX9_interrupt_51 : decode cX9_interrupt 51 = .ok (.aload_n 0, 1) := by decide +kernel
theorem dX9_interrupt_52 : decode cX9_interrupt 52 = .ok (.iconst 4, 1) := by decide +kernel
theorem dX9_interrupt_53 : decode cX9_interrupt 53 = .ok (.iconst 1, 1) := by decide +kernel
theorem dX9_interrupt_54 : decode cX9_interrupt 54 = .ok (.invokevirtual 110, 3) := by decide +kernel
theorem dX9_interrupt_57 : decode cX9_interrupt 57 = .ok (.aload_n 0, 1) := by decide +kernel
theorem dX9_interrupt_58 : decode cX9_interrupt 58 = .ok (.bipush 8, 2) := by decide +kernel
theorem dX9_interrupt_60 : decode cX9_interrupt 60 = .ok (.iconst 0, 1) := by decide +kernel
theorem dX9_interrupt_61 : decode cX9_interrupt 61 = .ok (.invokevirtual 110, 3) := by decide +kernel
theorem dX9_interrupt_64 : decode cX9_interrupt 64 = .ok (.aload_n 0, 1) := by decide +kernel
theorem dX9_interrupt_65 : decode cX9_interrupt 65 = .ok (.aload_n 0, 1) := by decide +kernel
theorem dX9_interrupt_66 : decode cX9_interrupt 66 = .ok (.iload_n 1, 1) := by decide +kernel
theorem dX9_interrupt_67 : decode cX9_interrupt 67 = .ok (.invokevirtual 179, 3) := by decide +kernel
theorem dX9_interrupt_70 : decode cX9_interrupt 70 = .ok (.putfield 176, 3) := by decide +kernel
theorem dX9_interrupt_73 : decode cX9_interrupt 73 = .ok (.return_, 1) := by decide +kernel
theorem dX9_calls_0 : decode cX9_calls 0 = .ok (.iload_n 1, 1) := by decide +kernel
theorem dX9_calls_1 : decode cX9_calls 1 = .ok (.bipush 32, 2) := by decide +kernel
theorem dX9_calls_3 : decode cX9_calls 3 = .ok (.if_icmp .ne 45, 3) := by decide +kernel
theorem dX9_calls_6 : decode cX9_calls 6 = .ok (.aload_n 0, 1) := by decide +kernel
theorem dX9_calls_7 : decode cX9_calls 7 = .ok (.aload_n 0, 1) := by decide +kernel
theorem dX9_calls_8 : decode cX9_calls 8 = .ok (.getfield 176, 3) := by decide +kernel
theorem dX9_calls_11 : decode cX9_calls 11 = .ok (.iconst 1, 1) := by decide +kernel
theorem dX9_calls_12 : decode cX9_calls 12 = .ok (.isub, 1) := by decide +kernel
theorem dX9_calls_13 : decode cX9_calls 13 = .ok (.bipush 8, 2) := by decide +kernel
theorem dX9_calls_15 : decode cX9_calls 15 = .ok (.ishr, 1) := by decide +kernel
theorem dX9_calls_16 : decode cX9_calls 16 = .ok (.sipush 255, 3) := by decide +kernel
theorem dX9_calls_19 : decode cX9_calls 19 = .ok (.iand, 1) := by decide +kernel
theorem dX9_calls_20 : decode cX9_calls 20 = .ok (.invokevirtual 199, 3) := by decide +kernel
theorem dX9_calls_23 : decode cX9_calls 23 = .ok (.aload_n 0, 1) := by decide +kernel
theorem dX9_calls_24 : decode cX9_calls 24 = .ok (.aload_n 0, 1) := by decide +kernel
theorem dX9_calls_25 : decode cX9_calls 25 = .ok (.getfield 176, 3) := by decide +kernel
theorem dX9_calls_28 : decode cX9_calls 28 = .ok (.iconst 1, 1) := by decide +kernel
theorem dX9_calls_29 : decode cX9_calls 29 = .ok (.isub, 1) := by decide +kernel
theorem dX9_calls_30 : decode cX9_calls 30 = .ok (.sipush 255, 3) := by decide +kernel
theorem dX9_calls_33 : decode cX9_calls 33 = .ok (.iand, 1) := by decide +kernel
theorem dX9_calls_34 : decode cX9_calls 34 = .ok (.invokevirtual 199, 3) := by decide +kernel
theorem dX9_calls_37 : decode cX9_calls 37 = .ok (.aload_n 0, 1) := by decide +kernel
theorem dX9_calls_38 : decode cX9_calls 38 = .ok (.aload_n 0, 1) := by decide +kernel
theorem dX9_calls_39 : decode cX9_calls 39 = .ok (.getfield 120, 3) := by decide +kernel
theorem dX9_calls_42 : decode cX9_calls 42 = .ok (.putfield 176, 3) := by decide +kernel
theorem dX9_calls_45 : decode cX9_calls 45 = .ok (.bipush 6, 2) := by decide +kernel
theorem dX9_calls_47 : decode cX9_calls 47 = .ok (.ireturn, 1) := by decide +kernel
theorem dX9_calls_48 : decode cX9_calls 48 = .ok (.iload_n 1, 1) := by decide +kernel
theorem dX9_calls_49 : decode cX9_calls 49 = .ok (.ifCond .ne 26, 3) := by decide +kernel
theorem dX9_calls_52 : decode cX9_calls 52 = .ok (.aload_n 0, 1) := by decide +kernel
theorem dX9_calls_53 : decode cX9_calls 53 = .ok (.aload_n 0, 1) := by decide +kernel
theorem dX9_calls_54 : decode cX9_calls 54 = .ok (.getfield 176, 3) := by decide +kernel
theorem dX9_calls_57 : decode cX9_calls 57 = .ok (.iconst 1, 1) := by decide +kernel
theorem dX9_calls_58 : decode cX9_calls 58 = .ok (.iadd, 1) := by decide +kernel
theorem dX9_calls_59 : decode cX9_calls 59 = .ok (.ldc 36, 2) := by decide +kernel
theorem dX9_calls_61 : decode cX9_calls 61 = .ok (.iand, 1) := by decide +kernel
theorem dX9_calls_62 : decode cX9_calls 62 = .ok (.putfield 176, 3) := by decide +kernel
theorem dX9_calls_65 : decode cX9_calls 65 = .ok (.aload_n 0, 1) := by decide +kernel
theorem dX9_calls_66 : decode cX9_calls 66 = .ok (.ldc 203, 2) := by decide +kernel
theorem dX9_calls_68 : decode cX9_calls 68 = .ok (.iconst 1, 1) := by decide +kernel
theorem dX9_calls_69 : decode cX9_calls 69 = .ok (.invokevirtual 204, 3) := by decide +kernel
theorem dX9_calls_72 : decode cX9_calls 72 = .ok (.bipush 7, 2) := by decide +kernel
theorem dX9_calls_74 : decode cX9_calls 74 = .ok (.ireturn, 1) := by decide +kernel
theorem dX9_calls_75 : decode cX9_calls 75 = .ok (.iload_n 1, 1) := by decide +kernel
theorem dX9_calls_76 : decode cX9_calls 76 = .ok (.bipush 64, 2) := by decide +kernel
theorem dX9_calls_78 : decode cX9_calls 78 = .ok (.if_icmp .ne 14, 3) := by decide +kernel
theorem dX9_calls_81 : decode cX9_calls 81 = .ok (.aload_n 0, 1) := by decide +kernel
theorem dX9_calls_82 : decode cX9_calls 82 = .ok (.aload_n 0, 1) := by decide +kernel
theorem dX9_calls_83 : decode cX9_calls 83 = .ok (.invokevirtual 207, 3) := by decide +kernel
theorem dX9_calls_86 : decode cX9_calls 86 = .ok (.bipush 48, 2) := by decide +kernel
theorem dX9_calls_88 : decode cX9_calls 88 = .ok (.ior, 1) := by decide +kernel
theorem dX9_calls_89 : decode cX9_calls 89 = .ok (.putfield 107, 3) := by decide +kernel
theorem dX9_calls_92 : decode cX9_calls 92 = .ok (.aload_n 0, 1) := by decide +kernel
theorem dX9_calls_93 : decode cX9_calls 93 = .ok (.invokevirtual 207, 3) := by decide +kernel
theorem dX9_calls_96 : decode cX9_calls 96 = .ok (.istore_n 2, 1) := by decide +kernel
theorem dX9_calls_97 : decode cX9_calls 97 = .ok (.aload_n 0, 1) := by decide +kernel
theorem dX9_calls_98 : decode cX9_calls 98 = .ok (.iload_n 2, 1) := by decide +kernel
theorem dX9_calls_99 : decode cX9_calls 99 = .ok (.aload_n 0, 1) := by decide +kernel
theorem dX9_calls_100 : decode cX9_calls 100 = .ok (.invokevirtual 207, 3) := by decide +kernel
theorem dX9_calls_103 : decode cX9_calls 103 = .ok (.bipush 8, 2) := by decide +kernel
theorem dX9_calls_105 : decode cX9_calls 105 = .ok (.ishl, 1) := by decide +kernel
theorem dX9_calls_106 : decode cX9_calls 106 = .ok (.ior, 1) := by decide +kernel
theorem dX9_calls_107 : decode cX9_calls 107 = .ok (.putfield 176, 3) := by decide +kernel
theorem dX9_calls_110 : decode cX9_calls 110 = .ok (.aload_n 0, 1) := by decide +kernel
theorem dX9_calls_111 : decode cX9_calls 111 = .ok (.iload_n 1, 1) := by decide +kernel
theorem dX9_calls_112 : decode cX9_calls 112 = .ok (.bipush 96, 2) := by decide +kernel
theorem dX9_calls_114 : decode cX9_calls 114 = .ok (.if_icmp .ne 15, 3) := by decide +kernel
theorem dX9_calls_117 : decode cX9_calls 117 = .ok (.aload_n 0, 1) := by decide +kernel
theorem dX9_calls_118 : decode cX9_calls 118 = .ok (.getfield 176, 3) := by decide +kernel
theorem dX9_calls_121 : decode cX9_calls 121 = .ok (.iconst 1, 1) := by decide +kernel
theorem dX9_calls_122 : decode cX9_calls 122 = .ok (.iadd, 1) := by decide +kernel
theorem dX9_calls_123 : decode cX9_calls 123 = .ok (.ldc 36, 2) := by decide +kernel
theorem dX9_calls_125 : decode cX9_calls 125 = .ok (.iand, 1) := by decide +kernel
theorem dX9_calls_126 : decode cX9_calls 126 = .ok (.goto 7, 3) := by decide +kernel
theorem dX9_calls_129 : decode cX9_calls 129 = .ok (.aload_n 0, 1) := by decide +kernel
theorem dX9_calls_130 : decode cX9_calls 130 = .ok (.getfield 176, 3) := by decide +kernel
theorem dX9_calls_133 : decode cX9_calls 133 = .ok (.putfield 176, 3) := by decide +kernel
theorem dX9_calls_136 : decode cX9_calls 136 = .ok (.bipush 6, 2) := by decide +kernel
theorem dX9_calls_138 : decode cX9_calls 138 = .ok (.ireturn, 1) := by decide +kernel
theorem dX9_stacks_0 : decode cX9_stacks 0 = .ok (.iload_n 2, 1) := by decide +kernel
theorem dX9_stacks_1 : decode cX9_stacks 1 = .ok (.ifCond .eq 29, 3) := by decide +kernel
theorem dX9_stacks_4 : decode cX9_stacks 4 = .ok (.aload_n 0, 1) := by decide +kernel
theorem dX9_stacks_5 : decode cX9_stacks 5 = .ok (.iload_n 1, 1) := by decide +kernel
theorem dX9_stacks_6 : decode cX9_stacks 6 = .ok (.ifCond .ge 13, 3) := by decide +kernel
theorem dX9_stacks_9 : decode cX9_stacks 9 = .ok (.aload_n 0, 1) := by decide +kernel
theorem dX9_stacks_10 : decode cX9_stacks 10 = .ok (.getfield 107, 3) := by decide +kernel
theorem dX9_stacks_13 : decode cX9_stacks 13 = .ok (.bipush 48, 2) := by decide +kernel
theorem dX9_stacks_15 : decode cX9_stacks 15 = .ok (.ior, 1) := by decide +kernel
theorem dX9_stacks_16 : decode cX9_stacks 16 = .ok (.goto 9, 3) := by decide +kernel
theorem dX9_stacks_19 : decode cX9_stacks 19 = .ok (.aload_n 0, 1) := by decide +kernel
theorem dX9_stacks_20 : decode cX9_stacks 20 = .ok (.getfield 14, 3) := by decide +kernel
theorem dX9_stacks_23 : decode cX9_stacks 23 = .ok (.iload_n 1, 1) := by decide +kernel
theorem dX9_stacks_24 : decode cX9_stacks 24 = .ok (.iaload, 1) := by decide +kernel
theorem dX9_stacks_25 : decode cX9_stacks 25 = .ok (.invokevirtual 199, 3) := by decide +kernel
theorem dX9_stacks_28 : decode cX9_stacks 28 = .ok (.iconst 3, 1) := by decide +kernel
theorem dX9_stacks_29 : decode cX9_stacks 29 = .ok (.ireturn, 1) := by decide +kernel
theorem dX9_stacks_30 : decode cX9_stacks 30 = .ok (.aload_n 0, 1) := by decide +kernel
theorem dX9_stacks_31 : decode cX9_stacks 31 = .ok (.invokevirtual 207, 3) := by decide +kernel
theorem dX9_stacks_34 : decode cX9_stacks 34 = .ok (.istore_n 3, 1) := by decide +kernel
theorem dX9_stacks_35 : decode cX9_stacks 35 = .ok (.iload_n 1, 1) := by decide +kernel
theorem dX9_stacks_36 : decode cX9_stacks 36 = .ok (.ifCond .ge 14, 3) := by decide +kernel
theorem dX9_stacks_39 : decode cX9_stacks 39 = .ok (.aload_n 0, 1) := by decide +kernel
theorem dX9_stacks_40 : decode cX9_stacks 40 = .ok (.iload_n 3, 1) := by decide +kernel
theorem dX9_stacks_41 : decode cX9_stacks 41 = .ok (.bipush 48, 2) := by decide +kernel
theorem dX9_stacks_43 : decode cX9_stacks 43 = .ok (.ior, 1) := by decide +kernel
theorem dX9_stacks_44 : decode cX9_stacks 44 = .ok (.putfield 107, 3) := by decide +kernel
theorem dX9_stacks_47 : decode cX9_stacks 47 = .ok (.goto 14, 3) := by decide +kernel
theorem dX9_stacks_50 : decode cX9_stacks 50 = .ok (.aload_n 0, 1) := by decide +kernel
theorem dX9_stacks_51 : decode cX9_stacks 51 = .ok (.getfield 14, 3) := by decide +kernel
theorem dX9_stacks_54 : decode cX9_stacks 54 = .ok (.iload_n 1, 1) := by decide +kernel
theorem dX9_stacks_55 : decode cX9_stacks 55 = .ok (.aload_n 0, 1) := by decide +kernel
theorem dX9_stacks_56 : decode cX9_stacks 56 = .ok (.iload_n 3, 1) := by decide +kernel
theorem dX9_stacks_57 : decode cX9_stacks 57 = .ok (.invokevirtual 142, 3) := by decide +kernel
theorem dX9_stacks_60 : decode cX9_stacks 60 = .ok (.iastore, 1) := by decide +kernel
theorem dX9_stacks_61 : decode cX9_stacks 61 = .ok (.iconst 4, 1) := by decide +kernel
theorem dX9_stacks_62 : decode cX9_stacks 62 = .ok (.ireturn, 1) := by decide +kernel
theorem dX9_moved_0 : decode cX9_moved 0 = .ok (.aload_n 0, 1) := by decide +kernel
theorem dX9_moved_1 : decode cX9_moved 1 = .ok (.getfield 14, 3) := by decide +kernel
theorem dX9_moved_4 : decode cX9_moved 4 = .ok (.iload_n 1, 1) := by decide +kernel
theorem dX9_moved_5 : decode cX9_moved 5 = .ok (.aload_n 0, 1) := by decide +kernel
theorem dX9_moved_6 : decode cX9_moved 6 = .ok (.aload_n 0, 1) := by decide +kernel
theorem dX9_moved_7 : decode cX9_moved 7 = .ok (.getfield 14, 3) := by decide +kernel
theorem dX9_moved_10 : decode cX9_moved 10 = .ok (.iload_n 2, 1) := by decide +kernel
theorem dX9_moved_11 : decode cX9_moved 11 = .ok (.iaload, 1) := by decide +kernel
theorem dX9_moved_12 : decode cX9_moved 12 = .ok (.invokevirtual 142, 3) := by decide +kernel
theorem dX9_moved_15 : decode cX9_moved 15 = .ok (.iastore, 1) := by decide +kernel
theorem dX9_moved_16 : decode cX9_moved 16 = .ok (.iconst 2, 1) := by decide +kernel
theorem dX9_moved_17 : decode cX9_moved 17 = .ok (.ireturn, 1) := by decide +kernel
theorem dX9_counted_0 : decode cX9_counted 0 = .ok (.aload_n 0, 1) := by decide +kernel
theorem dX9_counted_1 : decode cX9_counted 1 = .ok (.getfield 14, 3) := by decide +kernel
theorem dX9_counted_4 : decode cX9_counted 4 = .ok (.iload_n 1, 1) := by decide +kernel
theorem dX9_counted_5 : decode cX9_counted 5 = .ok (.aload_n 0, 1) := by decide +kernel
theorem dX9_counted_6 : decode cX9_counted 6 = .ok (.aload_n 0, 1) := by decide +kernel
theorem dX9_counted_7 : decode cX9_counted 7 = .ok (.getfield 14, 3) := by decide +kernel
theorem dX9_counted_10 : decode cX9_counted 10 = .ok (.iload_n 1, 1) := by decide +kernel
theorem dX9_counted_11 : decode cX9_counted 11 = .ok (.iaload, 1) := by decide +kernel
theorem dX9_counted_12 : decode cX9_counted 12 = .ok (.iload_n 2, 1) := by decide +kernel
theorem dX9_counted_13 : decode cX9_counted 13 = .ok (.iadd, 1) := by decide +kernel
theorem dX9_counted_14 : decode cX9_counted 14 = .ok (.sipush 255, 3) := by decide +kernel
theorem dX9_counted_17 : decode cX9_counted 17 = .ok (.iand, 1) := by decide +kernel
theorem dX9_counted_18 : decode cX9_counted 18 = .ok (.invokevirtual 142, 3) := by decide +kernel
theorem dX9_counted_21 : decode cX9_counted 21 = .ok (.iastore, 1) := by decide +kernel
theorem dX9_counted_22 : decode cX9_counted 22 = .ok (.iconst 2, 1) := by decide +kernel
theorem dX9_counted_23 : decode cX9_counted 23 = .ok (.ireturn, 1) := by decide +kernel
theorem dX9_flagged_0 : decode cX9_flagged 0 = .ok (.aload_n 0, 1) := by decide +kernel
theorem dX9_flagged_1 : decode cX9_flagged 1 = .ok (.iload_n 1, 1) := by decide +kernel
theorem dX9_flagged_2 : decode cX9_flagged 2 = .ok (.iload_n 2, 1) := by decide +kernel
theorem dX9_flagged_3 : decode cX9_flagged 3 = .ok (.invokevirtual 110, 3) := by decide +kernel
theorem dX9_flagged_6 : decode cX9_flagged 6 = .ok (.iconst 2, 1) := by decide +kernel
theorem dX9_flagged_7 : decode cX9_flagged 7 = .ok (.ireturn, 1) := by decide +kernel
theorem dX9_eights_0 : decode cX9_eights 0 = .ok (.iload_n 1, 1) := by decide +kernel
theorem dX9_eights_1 : decode cX9_eights 1 = .ok (.iconst 4, 1) := by decide +kernel
theorem dX9_eights_2 : decode cX9_eights 2 = .ok (.ishr, 1) := by decide +kernel
theorem dX9_eights_3 : decode cX9_eights 3 = .ok (.tableswitch 180 0 14 #[73, 80, 87, 94, 101, 108, 115, 122, 129, 136, 143, 150, 158, 165, 173], 73) := by decide +kernel
theorem dX9_eights_76 : decode cX9_eights 76 = .ok (.aload_n 0, 1) := by decide +kernel
theorem dX9_eights_77 : decode cX9_eights 77 = .ok (.iconst (-1), 1) := by decide +kernel
theorem dX9_eights_78 : decode cX9_eights 78 = .ok (.iconst 1, 1) := by decide +kernel
theorem dX9_eights_79 : decode cX9_eights 79 = .ok (.invokevirtual 210, 3) := by decide +kernel
theorem dX9_eights_82 : decode cX9_eights 82 = .ok (.ireturn, 1) := by decide +kernel
theorem dX9_eights_83 : decode cX9_eights 83 = .ok (.aload_n 0, 1) := by decide +kernel
theorem dX9_eights_84 : decode cX9_eights 84 = .ok (.iconst 1, 1) := by decide +kernel
theorem dX9_eights_85 : decode cX9_eights 85 = .ok (.iconst 0, 1) := by decide +kernel
theorem dX9_eights_86 : decode cX9_eights 86 = .ok (.invokevirtual 214, 3) := by decide +kernel
theorem dX9_eights_89 : decode cX9_eights 89 = .ok (.ireturn, 1) := by decide +kernel
theorem dX9_eights_90 : decode cX9_eights 90 = .ok (.aload_n 0, 1) := by decide +kernel
theorem dX9_eights_91 : decode cX9_eights 91 = .ok (.iconst (-1), 1) := by decide +kernel
theorem dX9_eights_92 : decode cX9_eights 92 = .ok (.iconst 0, 1) := by decide +kernel
theorem dX9_eights_93 : decode cX9_eights 93 = .ok (.invokevirtual 210, 3) := by decide +kernel
theorem dX9_eights_96 : decode cX9_eights 96 = .ok (.ireturn, 1) := by decide +kernel
theorem dX9_eights_97 : decode cX9_eights 97 = .ok (.aload_n 0, 1) := by decide +kernel
theorem dX9_eights_98 : decode cX9_eights 98 = .ok (.iconst 1, 1) := by decide +kernel
theorem dX9_eights_99 : decode cX9_eights 99 = .ok (.iconst 1, 1) := by decide +kernel
theorem dX9_eights_100 : decode cX9_eights 100 = .ok (.invokevirtual 214, 3) := by decide +kernel
theorem dX9_eights_103 : decode cX9_eights 103 = .ok (.ireturn, 1) := by decide +kernel
theorem dX9_eights_104 : decode cX9_eights 104 = .ok (.aload_n 0, 1) := by decide +kernel
theorem dX9_eights_105 : decode cX9_eights 105 = .ok (.iconst 0, 1) := by decide +kernel
theorem dX9_eights_106 : decode cX9_eights 106 = .ok (.iconst 1, 1) := by decide +kernel
theorem dX9_eights_107 : decode cX9_eights 107 = .ok (.invokevirtual 210, 3) := by decide +kernel
theorem dX9_eights_110 : decode cX9_eights 110 = .ok (.ireturn, 1) := by decide +kernel
theorem dX9_eights_111 : decode cX9_eights 111 = .ok (.aload_n 0, 1) := by decide +kernel
theorem dX9_eights_112 : decode cX9_eights 112 = .ok (.iconst 4, 1) := by decide +kernel
theorem dX9_eights_113 : decode cX9_eights 113 = .ok (.iconst 0, 1) := by decide +kernel
theorem dX9_eights_114 : decode cX9_eights 114 = .ok (.invokevirtual 214, 3) := by decide +kernel
theorem dX9_eights_117 : decode cX9_eights 117 = .ok (.ireturn, 1) := by decide +kernel
theorem dX9_eights_118 : decode cX9_eights 118 = .ok (.aload_n 0, 1) := by decide +kernel
theorem dX9_eights_119 : decode cX9_eights 119 = .ok (.iconst 0, 1) := by decide +kernel
theorem dX9_eights_120 : decode cX9_eights 120 = .ok (.iconst 0, 1) := by decide +kernel
theorem dX9_eights_121 : decode cX9_eights 121 = .ok (.invokevirtual 210, 3) := by decide +kernel
theorem dX9_eights_124 : decode cX9_eights 124 = .ok (.ireturn, 1) := by decide +kernel
theorem dX9_eights_125 : decode cX9_eights 125 = .ok (.aload_n 0, 1) := by decide +kernel
theorem dX9_eights_126 : decode cX9_eights 126 = .ok (.iconst 4, 1) := by decide +kernel
theorem dX9_eights_127 : decode cX9_eights 127 = .ok (.iconst 1, 1) := by decide +kernel
theorem dX9_eights_128 : decode cX9_eights 128 = .ok (.invokevirtual 214, 3) := by decide +kernel
theorem dX9_eights_131 : decode cX9_eights 131 = .ok (.ireturn, 1) := by decide +kernel
theorem dX9_eights_132 : decode cX9_eights 132 = .ok (.aload_n 0, 1) := by decide +kernel
theorem dX9_eights_133 : decode cX9_eights 133 = .ok (.iconst 2, 1) := by decide +kernel
theorem dX9_eights_134 : decode cX9_eights 134 = .ok (.iconst (-1), 1) := by decide +kernel
theorem dX9_eights_135 : decode cX9_eights 135 = .ok (.invokevirtual 217, 3) := by decide +kernel
theorem dX9_eights_138 : decode cX9_eights 138 = .ok (.ireturn, 1) := by decide +kernel
theorem dX9_eights_139 : decode cX9_eights 139 = .ok (.aload_n 0, 1) := by decide +kernel
theorem dX9_eights_140 : decode cX9_eights 140 = .ok (.iconst 0, 1) := by decide +kernel
theorem dX9_eights_141 : decode cX9_eights 141 = .ok (.iconst 2, 1) := by decide +kernel
theorem dX9_eights_142 : decode cX9_eights 142 = .ok (.invokevirtual 220, 3) := by decide +kernel
theorem dX9_eights_145 : decode cX9_eights 145 = .ok (.ireturn, 1) := by decide +kernel
theorem dX9_eights_146 : decode cX9_eights 146 = .ok (.aload_n 0, 1) := by decide +kernel
theorem dX9_eights_147 : decode cX9_eights 147 = .ok (.iconst 2, 1) := by decide +kernel
theorem dX9_eights_148 : decode cX9_eights 148 = .ok (.iconst 0, 1) := by decide +kernel
theorem dX9_eights_149 : decode cX9_eights 149 = .ok (.invokevirtual 220, 3) := by decide +kernel
theorem dX9_eights_152 : decode cX9_eights 152 = .ok (.ireturn, 1) := by decide +kernel
theorem dX9_eights_153 : decode cX9_eights 153 = .ok (.aload_n 0, 1) := by decide +kernel
theorem dX9_eights_154 : decode cX9_eights 154 = .ok (.bipush 64, 2) := by decide +kernel
theorem dX9_eights_156 : decode cX9_eights 156 = .ok (.iconst 0, 1) := by decide +kernel
theorem dX9_eights_157 : decode cX9_eights 157 = .ok (.invokevirtual 214, 3) := by decide +kernel
theorem dX9_eights_160 : decode cX9_eights 160 = .ok (.ireturn, 1) := by decide +kernel
theorem dX9_eights_161 : decode cX9_eights 161 = .ok (.aload_n 0, 1) := by decide +kernel
theorem dX9_eights_162 : decode cX9_eights 162 = .ok (.iconst 2, 1) := by decide +kernel
theorem dX9_eights_163 : decode cX9_eights 163 = .ok (.iconst 1, 1) := by decide +kernel
theorem dX9_eights_164 : decode cX9_eights 164 = .ok (.invokevirtual 217, 3) := by decide +kernel
theorem dX9_eights_167 : decode cX9_eights 167 = .ok (.ireturn, 1) := by decide +kernel
theorem dX9_eights_168 : decode cX9_eights 168 = .ok (.aload_n 0, 1) := by decide +kernel
theorem dX9_eights_169 : decode cX9_eights 169 = .ok (.bipush 8, 2) := by decide +kernel
theorem dX9_eights_171 : decode cX9_eights 171 = .ok (.iconst 0, 1) := by decide +kernel
theorem dX9_eights_172 : decode cX9_eights 172 = .ok (.invokevirtual 214, 3) := by decide +kernel
theorem dX9_eights_175 : decode cX9_eights 175 = .ok (.ireturn, 1) := by decide +kernel
theorem dX9_eights_176 : decode cX9_eights 176 = .ok (.aload_n 0, 1) := by decide +kernel
theorem dX9_eights_177 : decode cX9_eights 177 = .ok (.iconst 1, 1) := by decide +kernel
theorem dX9_eights_178 : decode cX9_eights 178 = .ok (.iconst 1, 1) := by decide +kernel
theorem dX9_eights_179 : decode cX9_eights 179 = .ok (.invokevirtual 217, 3) := by decide +kernel
theorem dX9_eights_182 : decode cX9_eights 182 = .ok (.ireturn, 1) := by decide +kernel
theorem dX9_eights_183 : decode cX9_eights 183 = .ok (.aload_n 0, 1) := by decide +kernel
theorem dX9_eights_184 : decode cX9_eights 184 = .ok (.bipush 8, 2) := by decide +kernel
theorem dX9_eights_186 : decode cX9_eights 186 = .ok (.iconst 1, 1) := by decide +kernel
theorem dX9_eights_187 : decode cX9_eights 187 = .ok (.invokevirtual 214, 3) := by decide +kernel
theorem dX9_eights_190 : decode cX9_eights 190 = .ok (.ireturn, 1) := by decide +kernel
theorem dX9_tens_0 : decode cX9_tens 0 = .ok (.iload_n 1, 1) := by decide +kernel
theorem dX9_tens_1 : decode cX9_tens 1 = .ok (.iconst 4, 1) := by decide +kernel
theorem dX9_tens_2 : decode cX9_tens 2 = .ok (.ishr, 1) := by decide +kernel
theorem dX9_tens_3 : decode cX9_tens 3 = .ok (.tableswitch 127 5 15 #[57, 127, 64, 71, 78, 92, 99, 106, 113, 127, 120], 57) := by decide +kernel
theorem dX9_tens_60 : decode cX9_tens 60 = .ok (.aload_n 0, 1) := by decide +kernel
theorem dX9_tens_61 : decode cX9_tens 61 = .ok (.iconst 2, 1) := by decide +kernel
theorem dX9_tens_62 : decode cX9_tens 62 = .ok (.iconst 1, 1) := by decide +kernel
theorem dX9_tens_63 : decode cX9_tens 63 = .ok (.invokevirtual 210, 3) := by decide +kernel
theorem dX9_tens_66 : decode cX9_tens 66 = .ok (.ireturn, 1) := by decide +kernel
theorem dX9_tens_67 : decode cX9_tens 67 = .ok (.aload_n 0, 1) := by decide +kernel
theorem dX9_tens_68 : decode cX9_tens 68 = .ok (.iconst 2, 1) := by decide +kernel
theorem dX9_tens_69 : decode cX9_tens 69 = .ok (.iconst 0, 1) := by decide +kernel
theorem dX9_tens_70 : decode cX9_tens 70 = .ok (.invokevirtual 210, 3) := by decide +kernel
theorem dX9_tens_73 : decode cX9_tens 73 = .ok (.ireturn, 1) := by decide +kernel
theorem dX9_tens_74 : decode cX9_tens 74 = .ok (.aload_n 0, 1) := by decide +kernel
theorem dX9_tens_75 : decode cX9_tens 75 = .ok (.iconst 0, 1) := by decide +kernel
theorem dX9_tens_76 : decode cX9_tens 76 = .ok (.iconst 1, 1) := by decide +kernel
theorem dX9_tens_77 : decode cX9_tens 77 = .ok (.invokevirtual 220, 3) := by decide +kernel
theorem dX9_tens_80 : decode cX9_tens 80 = .ok (.ireturn, 1) := by decide +kernel
theorem dX9_tens_81 : decode cX9_tens 81 = .ok (.aload_n 0, 1) := by decide +kernel
theorem dX9_tens_82 : decode cX9_tens 82 = .ok (.getfield 14, 3) := by decide +kernel
theorem dX9_tens_85 : decode cX9_tens 85 = .ok (.iconst 3, 1) := by decide +kernel
theorem dX9_tens_86 : decode cX9_tens 86 = .ok (.aload_n 0, 1) := by decide +kernel
theorem dX9_tens_87 : decode cX9_tens 87 = .ok (.getfield 14, 3) := by decide +kernel
theorem dX9_tens_90 : decode cX9_tens 90 = .ok (.iconst 1, 1) := by decide +kernel
theorem dX9_tens_91 : decode cX9_tens 91 = .ok (.iaload, 1) := by decide +kernel
theorem dX9_tens_92 : decode cX9_tens 92 = .ok (.iastore, 1) := by decide +kernel
theorem dX9_tens_93 : decode cX9_tens 93 = .ok (.iconst 2, 1) := by decide +kernel
theorem dX9_tens_94 : decode cX9_tens 94 = .ok (.ireturn, 1) := by decide +kernel
theorem dX9_tens_95 : decode cX9_tens 95 = .ok (.aload_n 0, 1) := by decide +kernel
theorem dX9_tens_96 : decode cX9_tens 96 = .ok (.iconst 1, 1) := by decide +kernel
theorem dX9_tens_97 : decode cX9_tens 97 = .ok (.iconst 0, 1) := by decide +kernel
theorem dX9_tens_98 : decode cX9_tens 98 = .ok (.invokevirtual 220, 3) := by decide +kernel
theorem dX9_tens_101 : decode cX9_tens 101 = .ok (.ireturn, 1) := by decide +kernel
theorem dX9_tens_102 : decode cX9_tens 102 = .ok (.aload_n 0, 1) := by decide +kernel
theorem dX9_tens_103 : decode cX9_tens 103 = .ok (.iconst 1, 1) := by decide +kernel
theorem dX9_tens_104 : decode cX9_tens 104 = .ok (.iconst 3, 1) := by decide +kernel
theorem dX9_tens_105 : decode cX9_tens 105 = .ok (.invokevirtual 220, 3) := by decide +kernel
theorem dX9_tens_108 : decode cX9_tens 108 = .ok (.ireturn, 1) := by decide +kernel
theorem dX9_tens_109 : decode cX9_tens 109 = .ok (.aload_n 0, 1) := by decide +kernel
theorem dX9_tens_110 : decode cX9_tens 110 = .ok (.iconst 1, 1) := by decide +kernel
theorem dX9_tens_111 : decode cX9_tens 111 = .ok (.iconst (-1), 1) := by decide +kernel
theorem dX9_tens_112 : decode cX9_tens 112 = .ok (.invokevirtual 217, 3) := by decide +kernel
theorem dX9_tens_115 : decode cX9_tens 115 = .ok (.ireturn, 1) := by decide +kernel
theorem dX9_tens_116 : decode cX9_tens 116 = .ok (.aload_n 0, 1) := by decide +kernel
theorem dX9_tens_117 : decode cX9_tens 117 = .ok (.iconst 1, 1) := by decide +kernel
theorem dX9_tens_118 : decode cX9_tens 118 = .ok (.iconst 1, 1) := by decide +kernel
theorem dX9_tens_119 : decode cX9_tens 119 = .ok (.invokevirtual 210, 3) := by decide +kernel
theorem dX9_tens_122 : decode cX9_tens 122 = .ok (.ireturn, 1) := by decide +kernel
theorem dX9_tens_123 : decode cX9_tens 123 = .ok (.aload_n 0, 1) := by decide +kernel
theorem dX9_tens_124 : decode cX9_tens 124 = .ok (.iconst 1, 1) := by decide +kernel
theorem dX9_tens_125 : decode cX9_tens 125 = .ok (.iconst 0, 1) := by decide +kernel
theorem dX9_tens_126 : decode cX9_tens 126 = .ok (.invokevirtual 210, 3) := by decide +kernel
theorem dX9_tens_129 : decode cX9_tens 129 = .ok (.ireturn, 1) := by decide +kernel
theorem dX9_tens_130 : decode cX9_tens 130 = .ok (.iconst 2, 1) := by decide +kernel
theorem dX9_tens_131 : decode cX9_tens 131 = .ok (.ireturn, 1) := by decide +kernel
theorem dX9_halts_0 : decode cX9_halts 0 = .ok (.aload_n 0, 1) := by decide +kernel
theorem dX9_halts_1 : decode cX9_halts 1 = .ok (.aload_n 0, 1) := by decide +kernel
theorem dX9_halts_2 : decode cX9_halts 2 = .ok (.getfield 223, 3) := by decide +kernel
theorem dX9_halts_5 : decode cX9_halts 5 = .ok (.ifCond .ne 10, 3) := by decide +kernel
theorem dX9_halts_8 : decode cX9_halts 8 = .ok (.iload_n 1, 1) := by decide +kernel
theorem dX9_halts_9 : decode cX9_halts 9 = .ok (.sipush 203, 3) := by decide +kernel
theorem dX9_halts_12 : decode cX9_halts 12 = .ok (.if_icmp .ne 7, 3) := by decide +kernel
theorem dX9_halts_15 : decode cX9_halts 15 = .ok (.iconst 1, 1) := by decide +kernel
theorem dX9_halts_16 : decode cX9_halts 16 = .ok (.goto 4, 3) := by decide +kernel
theorem dX9_halts_19 : decode cX9_halts 19 = .ok (.iconst 0, 1) := by decide +kernel
theorem dX9_halts_20 : decode cX9_halts 20 = .ok (.putfield 223, 3) := by decide +kernel
theorem dX9_halts_23 : decode cX9_halts 23 = .ok (.aload_n 0, 1) := by decide +kernel
theorem dX9_halts_24 : decode cX9_halts 24 = .ok (.aload_n 0, 1) := by decide +kernel
theorem dX9_halts_25 : decode cX9_halts 25 = .ok (.getfield 226, 3) := by decide +kernel
theorem dX9_halts_28 : decode cX9_halts 28 = .ok (.ifCond .ne 10, 3) := by decide +kernel
theorem dX9_halts_31 : decode cX9_halts 31 = .ok (.iload_n 1, 1) := by decide +kernel
theorem dX9_halts_32 : decode cX9_halts 32 = .ok (.sipush 219, 3) := by decide +kernel
theorem dX9_halts_35 : decode cX9_halts 35 = .ok (.if_icmp .ne 7, 3) := by decide +kernel
theorem dX9_halts_38 : decode cX9_halts 38 = .ok (.iconst 1, 1) := by decide +kernel
theorem dX9_halts_39 : decode cX9_halts 39 = .ok (.goto 4, 3) := by decide +kernel
theorem dX9_halts_42 : decode cX9_halts 42 = .ok (.iconst 0, 1) := by decide +kernel
theorem dX9_halts_43 : decode cX9_halts 43 = .ok (.putfield 226, 3) := by decide +kernel
theorem dX9_halts_46 : decode cX9_halts 46 = .ok (.iload_n 1, 1) := by decide +kernel
theorem dX9_halts_47 : decode cX9_halts 47 = .ok (.sipush 203, 3) := by decide +kernel
theorem dX9_halts_50 : decode cX9_halts 50 = .ok (.if_icmp .eq 10, 3) := by decide +kernel
theorem dX9_halts_53 : decode cX9_halts 53 = .ok (.iload_n 1, 1) := by decide +kernel
theorem dX9_halts_54 : decode cX9_halts 54 = .ok (.sipush 219, 3) := by decide +kernel
theorem dX9_halts_57 : decode cX9_halts 57 = .ok (.if_icmp .ne 7, 3) := by decide +kernel
theorem dX9_halts_60 : decode cX9_halts 60 = .ok (.iconst 3, 1) := by decide +kernel
theorem dX9_halts_61 : decode cX9_halts 61 = .ok (.goto 4, 3) := by decide +kernel
theorem dX9_halts_64 : decode cX9_halts 64 = .ok (.iconst 1, 1) := by decide +kernel
theorem dX9_halts_65 : decode cX9_halts 65 = .ok (.ireturn, 1) := by decide +kernel
theorem dX9_instruction_0 : decode cX9_instruction 0 = .ok (.aload_n 0, 1) := by decide +kernel
theorem dX9_instruction_1 : decode cX9_instruction 1 = .ok (.getfield 26, 3) := by decide +kernel
theorem dX9_instruction_4 : decode cX9_instruction 4 = .ok (.aload_n 0, 1) := by decide +kernel
theorem dX9_instruction_5 : decode cX9_instruction 5 = .ok (.getfield 229, 3) := by decide +kernel
theorem dX9_instruction_8 : decode cX9_instruction 8 = .ok (.bipush 32, 2) := by decide +kernel
theorem dX9_instruction_10 : decode cX9_instruction 10 = .ok (.irem, 1) := by decide +kernel
theorem dX9_instruction_11 : decode cX9_instruction 11 = .ok (.aload_n 0, 1) := by decide +kernel
theorem dX9_instruction_12 : decode cX9_instruction 12 = .ok (.getfield 176, 3) := by decide +kernel
theorem dX9_instruction_15 : decode cX9_instruction 15 = .ok (.iastore, 1) := by decide +kernel
