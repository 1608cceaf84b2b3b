theorem dL_low_0 : decode cL_low 0 = .ok (.iload_n 0, 1) := by decide +kernel
theorem dL_low_1 : decode cL_low 1 = .ok (.ldc 7, 2) := by decide +kernel
theorem dL_low_3 : decode cL_low 3 = .ok (.iand, 1) := by decide +kernel
theorem dL_low_4 : decode cL_low 4 = .ok (.iload_n 1, 1) := by decide +kernel
theorem dL_low_5 : decode cL_low 5 = .ok (.irem, 1) := by decide +kernel
theorem dL_low_6 : decode cL_low 6 = .ok (.ireturn, 1) := by decide +kernel
theorem dL_cell_0 : decode cL_cell 0 = .ok (.iload_n 1, 1) := by decide +kernel
theorem dL_cell_1 : decode cL_cell 1 = .ok (.aload_n 0, 1) := by decide +kernel
theorem dL_cell_2 : decode cL_cell 2 = .ok (.arraylength, 1) := by decide +kernel
theorem dL_cell_3 : decode cL_cell 3 = .ok (.if_icmp .ge 9, 3) := by decide +kernel
theorem dL_cell_6 : decode cL_cell 6 = .ok (.aload_n 0, 1) := by decide +kernel
theorem dL_cell_7 : decode cL_cell 7 = .ok (.iload_n 1, 1) := by decide +kernel
theorem dL_cell_8 : decode cL_cell 8 = .ok (.iaload, 1) := by decide +kernel
theorem dL_cell_9 : decode cL_cell 9 = .ok (.goto 11, 3) := by decide +kernel
theorem dL_cell_12 : decode cL_cell 12 = .ok (.ldc 8, 2) := by decide +kernel
theorem dL_cell_14 : decode cL_cell 14 = .ok (.iload_n 1, 1) := by decide +kernel
theorem dL_cell_15 : decode cL_cell 15 = .ok (.imul, 1) := by decide +kernel
theorem dL_cell_16 : decode cL_cell 16 = .ok (.sipush 977, 3) := by decide +kernel
theorem dL_cell_19 : decode cL_cell 19 = .ok (.iadd, 1) := by decide +kernel
theorem dL_cell_20 : decode cL_cell 20 = .ok (.ireturn, 1) := by decide +kernel
theorem dL_acts_0 : decode cL_acts 0 = .ok (.iload_n 1, 1) := by decide +kernel
theorem dL_acts_1 : decode cL_acts 1 = .ok (.ifCond .ne 39, 3) := by decide +kernel
theorem dL_acts_4 : decode cL_acts 4 = .ok (.aload_n 0, 1) := by decide +kernel
theorem dL_acts_5 : decode cL_acts 5 = .ok (.iload_n 2, 1) := by decide +kernel
theorem dL_acts_6 : decode cL_acts 6 = .ok (.iconst 1, 1) := by decide +kernel
theorem dL_acts_7 : decode cL_acts 7 = .ok (.iload_n 3, 1) := by decide +kernel
theorem dL_acts_8 : decode cL_acts 8 = .ok (.iconst 2, 1) := by decide +kernel
theorem dL_acts_9 : decode cL_acts 9 = .ok (.invokestatic 9, 3) := by decide +kernel
theorem dL_acts_12 : decode cL_acts 12 = .ok (.iadd, 1) := by decide +kernel
theorem dL_acts_13 : decode cL_acts 13 = .ok (.iconst 1, 1) := by decide +kernel
theorem dL_acts_14 : decode cL_acts 14 = .ok (.iload_n 3, 1) := by decide +kernel
theorem dL_acts_15 : decode cL_acts 15 = .ok (.iconst 2, 1) := by decide +kernel
theorem dL_acts_16 : decode cL_acts 16 = .ok (.ishr, 1) := by decide +kernel
theorem dL_acts_17 : decode cL_acts 17 = .ok (.bipush 6, 2) := by decide +kernel
theorem dL_acts_19 : decode cL_acts 19 = .ok (.invokestatic 9, 3) := by decide +kernel
theorem dL_acts_22 : decode cL_acts 22 = .ok (.iadd, 1) := by decide +kernel
theorem dL_acts_23 : decode cL_acts 23 = .ok (.iload_n 3, 1) := by decide +kernel
theorem dL_acts_24 : decode cL_acts 24 = .ok (.iconst 5, 1) := by decide +kernel
theorem dL_acts_25 : decode cL_acts 25 = .ok (.ishr, 1) := by decide +kernel
theorem dL_acts_26 : decode cL_acts 26 = .ok (.iconst 3, 1) := by decide +kernel
theorem dL_acts_27 : decode cL_acts 27 = .ok (.invokestatic 9, 3) := by decide +kernel
theorem dL_acts_30 : decode cL_acts 30 = .ok (.iconst 1, 1) := by decide +kernel
theorem dL_acts_31 : decode cL_acts 31 = .ok (.isub, 1) := by decide +kernel
theorem dL_acts_32 : decode cL_acts 32 = .ok (.iload 4, 2) := by decide +kernel
theorem dL_acts_34 : decode cL_acts 34 = .ok (.invokevirtual 15, 3) := by decide +kernel
theorem dL_acts_37 : decode cL_acts 37 = .ok (.goto 89, 3) := by decide +kernel
theorem dL_acts_40 : decode cL_acts 40 = .ok (.iload_n 1, 1) := by decide +kernel
theorem dL_acts_41 : decode cL_acts 41 = .ok (.iconst 1, 1) := by decide +kernel
theorem dL_acts_42 : decode cL_acts 42 = .ok (.if_icmp .ne 12, 3) := by decide +kernel
theorem dL_acts_45 : decode cL_acts 45 = .ok (.aload_n 0, 1) := by decide +kernel
theorem dL_acts_46 : decode cL_acts 46 = .ok (.iload_n 2, 1) := by decide +kernel
theorem dL_acts_47 : decode cL_acts 47 = .ok (.iload_n 3, 1) := by decide +kernel
theorem dL_acts_48 : decode cL_acts 48 = .ok (.invokevirtual 21, 3) := by decide +kernel
theorem dL_acts_51 : decode cL_acts 51 = .ok (.goto 75, 3) := by decide +kernel
theorem dL_acts_54 : decode cL_acts 54 = .ok (.iload_n 1, 1) := by decide +kernel
theorem dL_acts_55 : decode cL_acts 55 = .ok (.iconst 2, 1) := by decide +kernel
theorem dL_acts_56 : decode cL_acts 56 = .ok (.if_icmp .ne 11, 3) := by decide +kernel
theorem dL_acts_59 : decode cL_acts 59 = .ok (.aload_n 0, 1) := by decide +kernel
theorem dL_acts_60 : decode cL_acts 60 = .ok (.iload_n 2, 1) := by decide +kernel
theorem dL_acts_61 : decode cL_acts 61 = .ok (.invokevirtual 24, 3) := by decide +kernel
theorem dL_acts_64 : decode cL_acts 64 = .ok (.goto 62, 3) := by decide +kernel
theorem dL_acts_67 : decode cL_acts 67 = .ok (.iload_n 1, 1) := by decide +kernel
theorem dL_acts_68 : decode cL_acts 68 = .ok (.iconst 3, 1) := by decide +kernel
theorem dL_acts_69 : decode cL_acts 69 = .ok (.if_icmp .ne 10, 3) := by decide +kernel
theorem dL_acts_72 : decode cL_acts 72 = .ok (.aload_n 0, 1) := by decide +kernel
theorem dL_acts_73 : decode cL_acts 73 = .ok (.invokevirtual 28, 3) := by decide +kernel
theorem dL_acts_76 : decode cL_acts 76 = .ok (.goto 50, 3) := by decide +kernel
theorem dL_acts_79 : decode cL_acts 79 = .ok (.iload_n 1, 1) := by decide +kernel
theorem dL_acts_80 : decode cL_acts 80 = .ok (.iconst 4, 1) := by decide +kernel
theorem dL_acts_81 : decode cL_acts 81 = .ok (.if_icmp .ne 10, 3) := by decide +kernel
theorem dL_acts_84 : decode cL_acts 84 = .ok (.aload_n 0, 1) := by decide +kernel
theorem dL_acts_85 : decode cL_acts 85 = .ok (.invokevirtual 32, 3) := by decide +kernel
theorem dL_acts_88 : decode cL_acts 88 = .ok (.goto 38, 3) := by decide +kernel
theorem dL_acts_91 : decode cL_acts 91 = .ok (.iload_n 1, 1) := by decide +kernel
theorem dL_acts_92 : decode cL_acts 92 = .ok (.iconst 5, 1) := by decide +kernel
theorem dL_acts_93 : decode cL_acts 93 = .ok (.if_icmp .ne 27, 3) := by decide +kernel
theorem dL_acts_96 : decode cL_acts 96 = .ok (.aload_n 0, 1) := by decide +kernel
theorem dL_acts_97 : decode cL_acts 97 = .ok (.iload_n 2, 1) := by decide +kernel
theorem dL_acts_98 : decode cL_acts 98 = .ok (.iload_n 3, 1) := by decide +kernel
theorem dL_acts_99 : decode cL_acts 99 = .ok (.iload 4, 2) := by decide +kernel
theorem dL_acts_101 : decode cL_acts 101 = .ok (.iload_n 2, 1) := by decide +kernel
theorem dL_acts_102 : decode cL_acts 102 = .ok (.iload_n 3, 1) := by decide +kernel
theorem dL_acts_103 : decode cL_acts 103 = .ok (.iadd, 1) := by decide +kernel
theorem dL_acts_104 : decode cL_acts 104 = .ok (.iconst 2, 1) := by decide +kernel
theorem dL_acts_105 : decode cL_acts 105 = .ok (.irem, 1) := by decide +kernel
theorem dL_acts_106 : decode cL_acts 106 = .ok (.ifCond .ne 7, 3) := by decide +kernel
theorem dL_acts_109 : decode cL_acts 109 = .ok (.iconst 1, 1) := by decide +kernel
theorem dL_acts_110 : decode cL_acts 110 = .ok (.goto 4, 3) := by decide +kernel
theorem dL_acts_113 : decode cL_acts 113 = .ok (.iconst 0, 1) := by decide +kernel
theorem dL_acts_114 : decode cL_acts 114 = .ok (.invokevirtual 35, 3) := by decide +kernel
theorem dL_acts_117 : decode cL_acts 117 = .ok (.goto 9, 3) := by decide +kernel
theorem dL_acts_120 : decode cL_acts 120 = .ok (.aload_n 0, 1) := by decide +kernel
theorem dL_acts_121 : decode cL_acts 121 = .ok (.iload_n 2, 1) := by decide +kernel
theorem dL_acts_122 : decode cL_acts 122 = .ok (.iload_n 3, 1) := by decide +kernel
theorem dL_acts_123 : decode cL_acts 123 = .ok (.invokevirtual 39, 3) := by decide +kernel
theorem dL_acts_126 : decode cL_acts 126 = .ok (.ireturn, 1) := by decide +kernel
theorem dL_acts_127 : decode cL_acts 127 = .ok (.astore 5, 2) := by decide +kernel
theorem dL_acts_129 : decode cL_acts 129 = .ok (.bipush (-9), 2) := by decide +kernel
theorem dL_acts_131 : decode cL_acts 131 = .ok (.ireturn, 1) := by decide +kernel
theorem dL_acts_132 : decode cL_acts 132 = .ok (.astore 5, 2) := by decide +kernel
theorem dL_acts_134 : decode cL_acts 134 = .ok (.bipush (-8), 2) := by decide +kernel
theorem dL_acts_136 : decode cL_acts 136 = .ok (.ireturn, 1) := by decide +kernel
theorem dL_acts_137 : decode cL_acts 137 = .ok (.astore 5, 2) := by decide +kernel
theorem dL_acts_139 : decode cL_acts 139 = .ok (.bipush (-7), 2) := by decide +kernel
theorem dL_acts_141 : decode cL_acts 141 = .ok (.ireturn, 1) := by decide +kernel
theorem dL_gives_0 : decode cL_gives 0 = .ok (.aload_n 0, 1) := by decide +kernel
theorem dL_gives_1 : decode cL_gives 1 = .ok (.iload_n 1, 1) := by decide +kernel
theorem dL_gives_2 : decode cL_gives 2 = .ok (.iload_n 2, 1) := by decide +kernel
theorem dL_gives_3 : decode cL_gives 3 = .ok (.iconst 0, 1) := by decide +kernel
theorem dL_gives_4 : decode cL_gives 4 = .ok (.iload_n 3, 1) := by decide +kernel
theorem dL_gives_5 : decode cL_gives 5 = .ok (.iload 4, 2) := by decide +kernel
theorem dL_gives_7 : decode cL_gives 7 = .ok (.iload 5, 2) := by decide +kernel
theorem dL_gives_9 : decode cL_gives 9 = .ok (.invokevirtual 48, 3) := by decide +kernel
theorem dL_gives_12 : decode cL_gives 12 = .ok (.ireturn, 1) := by decide +kernel
theorem dL_gives_13 : decode cL_gives 13 = .ok (.astore 6, 2) := by decide +kernel
theorem dL_gives_15 : decode cL_gives 15 = .ok (.bipush (-9), 2) := by decide +kernel
theorem dL_gives_17 : decode cL_gives 17 = .ok (.ireturn, 1) := by decide +kernel
theorem dL_gives_18 : decode cL_gives 18 = .ok (.astore 6, 2) := by decide +kernel
theorem dL_gives_20 : decode cL_gives 20 = .ok (.bipush (-8), 2) := by decide +kernel
theorem dL_gives_22 : decode cL_gives 22 = .ok (.ireturn, 1) := by decide +kernel
theorem dL_unmixed_0 : decode cL_unmixed 0 = .ok (.aload_n 0, 1) := by decide +kernel
theorem dL_unmixed_1 : decode cL_unmixed 1 = .ok (.iload_n 1, 1) := by decide +kernel
theorem dL_unmixed_2 : decode cL_unmixed 2 = .ok (.iconst 0, 1) := by decide +kernel
theorem dL_unmixed_3 : decode cL_unmixed 3 = .ok (.iload_n 2, 1) := by decide +kernel
theorem dL_unmixed_4 : decode cL_unmixed 4 = .ok (.iload_n 3, 1) := by decide +kernel
theorem dL_unmixed_5 : decode cL_unmixed 5 = .ok (.invokevirtual 52, 3) := by decide +kernel
theorem dL_unmixed_8 : decode cL_unmixed 8 = .ok (.ireturn, 1) := by decide +kernel
theorem dL_unmixed_9 : decode cL_unmixed 9 = .ok (.astore 4, 2) := by decide +kernel
theorem dL_unmixed_11 : decode cL_unmixed 11 = .ok (.bipush (-8), 2) := by decide +kernel
theorem dL_unmixed_13 : decode cL_unmixed 13 = .ok (.ireturn, 1) := by decide +kernel
theorem dL_imaged_0 : decode cL_imaged 0 = .ok (.aload_n 0, 1) := by decide +kernel
theorem dL_imaged_1 : decode cL_imaged 1 = .ok (.iload_n 1, 1) := by decide +kernel
theorem dL_imaged_2 : decode cL_imaged 2 = .ok (.iconst 0, 1) := by decide +kernel
theorem dL_imaged_3 : decode cL_imaged 3 = .ok (.iload_n 2, 1) := by decide +kernel
theorem dL_imaged_4 : decode cL_imaged 4 = .ok (.iload_n 3, 1) := by decide +kernel
theorem dL_imaged_5 : decode cL_imaged 5 = .ok (.iload 4, 2) := by decide +kernel
theorem dL_imaged_7 : decode cL_imaged 7 = .ok (.invokevirtual 55, 3) := by decide +kernel
theorem dL_imaged_10 : decode cL_imaged 10 = .ok (.ireturn, 1) := by decide +kernel
theorem dL_imaged_11 : decode cL_imaged 11 = .ok (.astore 5, 2) := by decide +kernel
theorem dL_imaged_13 : decode cL_imaged 13 = .ok (.bipush (-8), 2) := by decide +kernel
theorem dL_imaged_15 : decode cL_imaged 15 = .ok (.ireturn, 1) := by decide +kernel
theorem dL_line_0 : decode cL_line 0 = .ok (.aload_n 0, 1) := by decide +kernel
theorem dL_line_1 : decode cL_line 1 = .ok (.iload_n 1, 1) := by decide +kernel
theorem dL_line_2 : decode cL_line 2 = .ok (.iconst 0, 1) := by decide +kernel
theorem dL_line_3 : decode cL_line 3 = .ok (.iload_n 2, 1) := by decide +kernel
theorem dL_line_4 : decode cL_line 4 = .ok (.invokevirtual 58, 3) := by decide +kernel
theorem dL_line_7 : decode cL_line 7 = .ok (.istore 4, 2) := by decide +kernel
theorem dL_line_9 : decode cL_line 9 = .ok (.aload_n 0, 1) := by decide +kernel
theorem dL_line_10 : decode cL_line 10 = .ok (.iload_n 1, 1) := by decide +kernel
theorem dL_line_11 : decode cL_line 11 = .ok (.iconst 0, 1) := by decide +kernel
theorem dL_line_12 : decode cL_line 12 = .ok (.iload_n 2, 1) := by decide +kernel
theorem dL_line_13 : decode cL_line 13 = .ok (.invokevirtual 62, 3) := by decide +kernel
theorem dL_line_16 : decode cL_line 16 = .ok (.istore 5, 2) := by decide +kernel
theorem dL_line_18 : decode cL_line 18 = .ok (.iload 4, 2) := by decide +kernel
theorem dL_line_20 : decode cL_line 20 = .ok (.ifCond .ge 22, 3) := by decide +kernel
theorem dL_line_23 : decode cL_line 23 = .ok (.iload 4, 2) := by decide +kernel
theorem dL_line_25 : decode cL_line 25 = .ok (.iconst (-1), 1) := by decide +kernel
theorem dL_line_26 : decode cL_line 26 = .ok (.if_icmp .ne 12, 3) := by decide +kernel
theorem dL_line_29 : decode cL_line 29 = .ok (.iload 5, 2) := by decide +kernel
theorem dL_line_31 : decode cL_line 31 = .ok (.ifCond .ne 7, 3) := by decide +kernel
theorem dL_line_34 : decode cL_line 34 = .ok (.iconst 1, 1) := by decide +kernel
theorem dL_line_35 : decode cL_line 35 = .ok (.goto 17, 3) := by decide +kernel
theorem dL_line_38 : decode cL_line 38 = .ok (.iconst 0, 1) := by decide +kernel
theorem dL_line_39 : decode cL_line 39 = .ok (.goto 13, 3) := by decide +kernel
theorem dL_line_42 : decode cL_line 42 = .ok (.iload 5, 2) := by decide +kernel
theorem dL_line_44 : decode cL_line 44 = .ok (.ifCond .le 7, 3) := by decide +kernel
theorem dL_line_47 : decode cL_line 47 = .ok (.iconst 1, 1) := by decide +kernel
theorem dL_line_48 : decode cL_line 48 = .ok (.goto 4, 3) := by decide +kernel
theorem dL_line_51 : decode cL_line 51 = .ok (.iconst 0, 1) := by decide +kernel
theorem dL_line_52 : decode cL_line 52 = .ok (.istore 6, 2) := by decide +kernel
theorem dL_line_54 : decode cL_line 54 = .ok (.iconst 0, 1) := by decide +kernel
theorem dL_line_55 : decode cL_line 55 = .ok (.istore 7, 2) := by decide +kernel
theorem dL_line_57 : decode cL_line 57 = .ok (.aload_n 0, 1) := by decide +kernel
theorem dL_line_58 : decode cL_line 58 = .ok (.iload_n 1, 1) := by decide +kernel
theorem dL_line_59 : decode cL_line 59 = .ok (.iload 7, 2) := by decide +kernel
theorem dL_line_61 : decode cL_line 61 = .ok (.iconst 1, 1) := by decide +kernel
theorem dL_line_62 : decode cL_line 62 = .ok (.invokestatic 65, 3) := by decide +kernel
theorem dL_line_65 : decode cL_line 65 = .ok (.istore 8, 2) := by decide +kernel
theorem dL_line_67 : decode cL_line 67 = .ok (.iload 6, 2) := by decide +kernel
theorem dL_line_69 : decode cL_line 69 = .ok (.ifCond .eq 152, 3) := by decide +kernel
theorem dL_line_72 : decode cL_line 72 = .ok (.iload 8, 2) := by decide +kernel
theorem dL_line_74 : decode cL_line 74 = .ok (.bipush (-8), 2) := by decide +kernel
theorem dL_line_76 : decode cL_line 76 = .ok (.if_icmp .eq 145, 3) := by decide +kernel
theorem dL_line_79 : decode cL_line 79 = .ok (.iload 7, 2) := by decide +kernel
theorem dL_line_81 : decode cL_line 81 = .ok (.iconst 3, 1) := by decide +kernel
theorem dL_line_82 : decode cL_line 82 = .ok (.if_icmp .ge 139, 3) := by decide +kernel
theorem dL_line_85 : decode cL_line 85 = .ok (.aload_n 0, 1) := by decide +kernel
theorem dL_line_86 : decode cL_line 86 = .ok (.iload_n 1, 1) := by decide +kernel
theorem dL_line_87 : decode cL_line 87 = .ok (.iconst 0, 1) := by decide +kernel
theorem dL_line_88 : decode cL_line 88 = .ok (.iload 7, 2) := by decide +kernel
theorem dL_line_90 : decode cL_line 90 = .ok (.iload_n 2, 1) := by decide +kernel
theorem dL_line_91 : decode cL_line 91 = .ok (.invokevirtual 69, 3) := by decide +kernel
theorem dL_line_94 : decode cL_line 94 = .ok (.istore 9, 2) := by decide +kernel
theorem dL_line_96 : decode cL_line 96 = .ok (.aload_n 0, 1) := by decide +kernel
theorem dL_line_97 : decode cL_line 97 = .ok (.iload_n 1, 1) := by decide +kernel
theorem dL_line_98 : decode cL_line 98 = .ok (.iconst 0, 1) := by decide +kernel
theorem dL_line_99 : decode cL_line 99 = .ok (.iload 7, 2) := by decide +kernel
theorem dL_line_101 : decode cL_line 101 = .ok (.iload_n 2, 1) := by decide +kernel
theorem dL_line_102 : decode cL_line 102 = .ok (.invokevirtual 73, 3) := by decide +kernel
theorem dL_line_105 : decode cL_line 105 = .ok (.istore 10, 2) := by decide +kernel
theorem dL_line_107 : decode cL_line 107 = .ok (.iload 4, 2) := by decide +kernel
theorem dL_line_109 : decode cL_line 109 = .ok (.ifCond .ge 22, 3) := by decide +kernel
theorem dL_line_112 : decode cL_line 112 = .ok (.iload 9, 2) := by decide +kernel
theorem dL_line_114 : decode cL_line 114 = .ok (.iconst (-1), 1) := by decide +kernel
theorem dL_line_115 : decode cL_line 115 = .ok (.if_icmp .ne 12, 3) := by decide +kernel
theorem dL_line_118 : decode cL_line 118 = .ok (.iload 10, 2) := by decide +kernel
theorem dL_line_120 : decode cL_line 120 = .ok (.ifCond .ne 7, 3) := by decide +kernel
theorem dL_line_123 : decode cL_line 123 = .ok (.iconst 1, 1) := by decide +kernel
theorem dL_line_124 : decode cL_line 124 = .ok (.goto 55, 3) := by decide +kernel
theorem dL_line_127 : decode cL_line 127 = .ok (.iconst 0, 1) := by decide +kernel
theorem dL_line_128 : decode cL_line 128 = .ok (.goto 51, 3) := by decide +kernel
theorem dL_line_131 : decode cL_line 131 = .ok (.iload 8, 2) := by decide +kernel
theorem dL_line_133 : decode cL_line 133 = .ok (.ifCond .ne 23, 3) := by decide +kernel
theorem dL_line_136 : decode cL_line 136 = .ok (.iload 9, 2) := by decide +kernel
theorem dL_line_138 : decode cL_line 138 = .ok (.iconst (-1), 1) := by decide +kernel
theorem dL_line_139 : decode cL_line 139 = .ok (.if_icmp .ne 13, 3) := by decide +kernel
theorem dL_line_142 : decode cL_line 142 = .ok (.iload 10, 2) := by decide +kernel
theorem dL_line_144 : decode cL_line 144 = .ok (.iconst 1, 1) := by decide +kernel
theorem dL_line_145 : decode cL_line 145 = .ok (.if_icmp .ne 7, 3) := by decide +kernel
theorem dL_line_148 : decode cL_line 148 = .ok (.iconst 1, 1) := by decide +kernel
theorem dL_line_149 : decode cL_line 149 = .ok (.goto 30, 3) := by decide +kernel
theorem dL_line_152 : decode cL_line 152 = .ok (.iconst 0, 1) := by decide +kernel
theorem dL_line_153 : decode cL_line 153 = .ok (.goto 26, 3) := by decide +kernel
theorem dL_line_156 : decode cL_line 156 = .ok (.iload 9, 2) := by decide +kernel
theorem dL_line_158 : decode cL_line 158 = .ok (.ifCond .lt 20, 3) := by decide +kernel
theorem dL_line_161 : decode cL_line 161 = .ok (.iload 9, 2) := by decide +kernel
theorem dL_line_163 : decode cL_line 163 = .ok (.bipush 26, 2) := by decide +kernel
theorem dL_line_165 : decode cL_line 165 = .ok (.if_icmp .ge 13, 3) := by decide +kernel
theorem dL_line_168 : decode cL_line 168 = .ok (.iload 10, 2) := by decide +kernel
theorem dL_line_170 : decode cL_line 170 = .ok (.iconst 2, 1) := by decide +kernel
theorem dL_line_171 : decode cL_line 171 = .ok (.if_icmp .lt 7, 3) := by decide +kernel
theorem dL_line_174 : decode cL_line 174 = .ok (.iconst 1, 1) := by decide +kernel
theorem dL_line_175 : decode cL_line 175 = .ok (.goto 4, 3) := by decide +kernel
theorem dL_line_178 : decode cL_line 178 = .ok (.iconst 0, 1) := by decide +kernel
theorem dL_line_179 : decode cL_line 179 = .ok (.istore 6, 2) := by decide +kernel
theorem dL_line_181 : decode cL_line 181 = .ok (.iload 6, 2) := by decide +kernel
theorem dL_line_183 : decode cL_line 183 = .ok (.ifCond .eq 19, 3) := by decide +kernel
theorem dL_line_186 : decode cL_line 186 = .ok (.iload 10, 2) := by decide +kernel
theorem dL_line_188 : decode cL_line 188 = .ok (.iconst 5, 1) := by decide +kernel
theorem dL_line_189 : decode cL_line 189 = .ok (.if_icmp .ne 9, 3) := by decide +kernel
theorem dL_line_192 : decode cL_line 192 = .ok (.iload 5, 2) := by decide +kernel
theorem dL_line_194 : decode cL_line 194 = .ok (.iconst 1, 1) := by decide +kernel
theorem dL_line_195 : decode cL_line 195 = .ok (.if_icmp .le 7, 3) := by decide +kernel
theorem dL_line_198 : decode cL_line 198 = .ok (.iconst 1, 1) := by decide +kernel
theorem dL_line_199 : decode cL_line 199 = .ok (.goto 4, 3) := by decide +kernel
theorem dL_line_202 : decode cL_line 202 = .ok (.iconst 0, 1) := by decide +kernel
theorem dL_line_203 : decode cL_line 203 = .ok (.istore 6, 2) := by decide +kernel
theorem dL_line_205 : decode cL_line 205 = .ok (.iinc 7 1, 3) := by decide +kernel
theorem dL_line_208 : decode cL_line 208 = .ok (.aload_n 0, 1) := by decide +kernel
theorem dL_line_209 : decode cL_line 209 = .ok (.iload_n 1, 1) := by decide +kernel
theorem dL_line_210 : decode cL_line 210 = .ok (.iload 7, 2) := by decide +kernel
theorem dL_line_212 : decode cL_line 212 = .ok (.iconst 1, 1) := by decide +kernel
theorem dL_line_213 : decode cL_line 213 = .ok (.invokestatic 65, 3) := by decide +kernel
theorem dL_line_216 : decode cL_line 216 = .ok (.istore 8, 2) := by decide +kernel
theorem dL_line_218 : decode cL_line 218 = .ok (.goto (-151), 3) := by decide +kernel
theorem dL_line_221 : decode cL_line 221 = .ok (.iload 6, 2) := by decide +kernel
theorem dL_line_223 : decode cL_line 223 = .ok (.ifCond .eq 89, 3) := by decide +kernel
theorem dL_line_226 : decode cL_line 226 = .ok (.iload_n 3, 1) := by decide +kernel
theorem dL_line_227 : decode cL_line 227 = .ok (.ifCond .le 85, 3) := by decide +kernel
theorem dL_line_230 : decode cL_line 230 = .ok (.aload_n 0, 1) := by decide +kernel
theorem dL_line_231 : decode cL_line 231 = .ok (.iload_n 3, 1) := by decide +kernel
theorem dL_line_232 : decode cL_line 232 = .ok (.iconst 1, 1) := by decide +kernel
theorem dL_line_233 : decode cL_line 233 = .ok (.isub, 1) := by decide +kernel
theorem dL_line_234 : decode cL_line 234 = .ok (.iload_n 1, 1) := by decide +kernel
theorem dL_line_235 : decode cL_line 235 = .ok (.iconst 0, 1) := by decide +kernel
theorem dL_line_236 : decode cL_line 236 = .ok (.iload_n 2, 1) := by decide +kernel
theorem dL_line_237 : decode cL_line 237 = .ok (.iconst 0, 1) := by decide +kernel
theorem dL_line_238 : decode cL_line 238 = .ok (.invokevirtual 76, 3) := by decide +kernel
theorem dL_line_241 : decode cL_line 241 = .ok (.istore 9, 2) := by decide +kernel
theorem dL_line_243 : decode cL_line 243 = .ok (.aload_n 0, 1) := by decide +kernel
theorem dL_line_244 : decode cL_line 244 = .ok (.iload_n 3, 1) := by decide +kernel
theorem dL_line_245 : decode cL_line 245 = .ok (.iconst 1, 1) := by decide +kernel
theorem dL_line_246 : decode cL_line 246 = .ok (.isub, 1) := by decide +kernel
theorem dL_line_247 : decode cL_line 247 = .ok (.iload_n 1, 1) := by decide +kernel
theorem dL_line_248 : decode cL_line 248 = .ok (.iconst 0, 1) := by decide +kernel
theorem dL_line_249 : decode cL_line 249 = .ok (.iload_n 2, 1) := by decide +kernel
theorem dL_line_250 : decode cL_line 250 = .ok (.iconst 1, 1) := by decide +kernel
theorem dL_line_251 : decode cL_line 251 = .ok (.invokevirtual 76, 3) := by decide +kernel
theorem dL_line_254 : decode cL_line 254 = .ok (.istore 10, 2) := by decide +kernel
theorem dL_line_256 : decode cL_line 256 = .ok (.iload 4, 2) := by decide +kernel
theorem dL_line_258 : decode cL_line 258 = .ok (.ifCond .ge 23, 3) := by decide +kernel
theorem dL_line_261 : decode cL_line 261 = .ok (.iload 9, 2) := by decide +kernel
theorem dL_line_263 : decode cL_line 263 = .ok (.iconst (-1), 1) := by decide +kernel
theorem dL_line_264 : decode cL_line 264 = .ok (.if_icmp .ne 13, 3) := by decide +kernel
theorem dL_line_267 : decode cL_line 267 = .ok (.iload 10, 2) := by decide +kernel
theorem dL_line_269 : decode cL_line 269 = .ok (.iconst (-1), 1) := by decide +kernel
theorem dL_line_270 : decode cL_line 270 = .ok (.if_icmp .ne 7, 3) := by decide +kernel
theorem dL_line_273 : decode cL_line 273 = .ok (.iconst 1, 1) := by decide +kernel
theorem dL_line_274 : decode cL_line 274 = .ok (.goto 36, 3) := by decide +kernel
theorem dL_line_277 : decode cL_line 277 = .ok (.iconst 0, 1) := by decide +kernel
theorem dL_line_278 : decode cL_line 278 = .ok (.goto 32, 3) := by decide +kernel
theorem dL_line_281 : decode cL_line 281 = .ok (.iload 9, 2) := by decide +kernel
theorem dL_line_283 : decode cL_line 283 = .ok (.ifCond .lt 26, 3) := by decide +kernel
theorem dL_line_286 : decode cL_line 286 = .ok (.iload 9, 2) := by decide +kernel
theorem dL_line_288 : decode cL_line 288 = .ok (.bipush 16, 2) := by decide +kernel
theorem dL_line_290 : decode cL_line 290 = .ok (.if_icmp .gt 19, 3) := by decide +kernel
theorem dL_line_293 : decode cL_line 293 = .ok (.iload 10, 2) := by decide +kernel
theorem dL_line_295 : decode cL_line 295 = .ok (.ifCond .lt 14, 3) := by decide +kernel
theorem dL_line_298 : decode cL_line 298 = .ok (.iload 10, 2) := by decide +kernel
theorem dL_line_300 : decode cL_line 300 = .ok (.bipush 40, 2) := by decide +kernel
theorem dL_line_302 : decode cL_line 302 = .ok (.if_icmp .gt 7, 3) := by decide +kernel
theorem dL_line_305 : decode cL_line 305 = .ok (.iconst 1, 1) := by decide +kernel
theorem dL_line_306 : decode cL_line 306 = .ok (.goto 4, 3) := by decide +kernel
theorem dL_line_309 : decode cL_line 309 = .ok (.iconst 0, 1) := by decide +kernel
theorem dL_line_310 : decode cL_line 310 = .ok (.istore 6, 2) := by decide +kernel
theorem dL_line_312 : decode cL_line 312 = .ok (.iload 6, 2) := by decide +kernel
theorem dL_line_314 : decode cL_line 314 = .ok (.ireturn, 1) := by decide +kernel
theorem dL_leaf_0 : decode cL_leaf 0 = .ok (.aload_n 0, 1) := by decide +kernel
theorem dL_leaf_1 : decode cL_leaf 1 = .ok (.iload_n 1, 1) := by decide +kernel
theorem dL_leaf_2 : decode cL_leaf 2 = .ok (.iconst 0, 1) := by decide +kernel
theorem dL_leaf_3 : decode cL_leaf 3 = .ok (.invokevirtual 80, 3) := by decide +kernel
theorem dL_leaf_6 : decode cL_leaf 6 = .ok (.istore_n 3, 1) := by decide +kernel
theorem dL_leaf_7 : decode cL_leaf 7 = .ok (.aload_n 0, 1) := by decide +kernel
theorem dL_leaf_8 : decode cL_leaf 8 = .ok (.iload_n 1, 1) := by decide +kernel
theorem dL_leaf_9 : decode cL_leaf 9 = .ok (.iconst 1, 1) := by decide +kernel
theorem dL_leaf_10 : decode cL_leaf 10 = .ok (.invokevirtual 80, 3) := by decide +kernel
theorem dL_leaf_13 : decode cL_leaf 13 = .ok (.istore 4, 2) := by decide +kernel
theorem dL_leaf_15 : decode cL_leaf 15 = .ok (.aload_n 0, 1) := by decide +kernel
theorem dL_leaf_16 : decode cL_leaf 16 = .ok (.iload_n 1, 1) := by decide +kernel
theorem dL_leaf_17 : decode cL_leaf 17 = .ok (.invokevirtual 84, 3) := by decide +kernel
theorem dL_leaf_20 : decode cL_leaf 20 = .ok (.istore 5, 2) := by decide +kernel
theorem dL_leaf_22 : decode cL_leaf 22 = .ok (.aload_n 0, 1) := by decide +kernel
theorem dL_leaf_23 : decode cL_leaf 23 = .ok (.iload_n 1, 1) := by decide +kernel
theorem dL_leaf_24 : decode cL_leaf 24 = .ok (.invokevirtual 87, 3) := by decide +kernel
theorem dL_leaf_27 : decode cL_leaf 27 = .ok (.istore 6, 2) := by decide +kernel
theorem dL_leaf_29 : decode cL_leaf 29 = .ok (.iload_n 3, 1) := by decide +kernel
theorem dL_leaf_30 : decode cL_leaf 30 = .ok (.ifCond .eq 15, 3) := by decide +kernel
theorem dL_leaf_33 : decode cL_leaf 33 = .ok (.iload_n 3, 1) := by decide +kernel
theorem dL_leaf_34 : decode cL_leaf 34 = .ok (.iload_n 3, 1) := by decide +kernel
theorem dL_leaf_35 : decode cL_leaf 35 = .ok (.iconst 1, 1) := by decide +kernel
theorem dL_leaf_36 : decode cL_leaf 36 = .ok (.isub, 1) := by decide +kernel
theorem dL_leaf_37 : decode cL_leaf 37 = .ok (.iand, 1) := by decide +kernel
theorem dL_leaf_38 : decode cL_leaf 38 = .ok (.ifCond .ne 7, 3) := by decide +kernel
theorem dL_leaf_41 : decode cL_leaf 41 = .ok (.iconst 1, 1) := by decide +kernel
theorem dL_leaf_42 : decode cL_leaf 42 = .ok (.goto 4, 3) := by decide +kernel
theorem dL_leaf_45 : decode cL_leaf 45 = .ok (.iconst 0, 1) := by decide +kernel
theorem dL_leaf_46 : decode cL_leaf 46 = .ok (.istore 7, 2) := by decide +kernel
theorem dL_leaf_48 : decode cL_leaf 48 = .ok (.iload 4, 2) := by decide +kernel
theorem dL_leaf_50 : decode cL_leaf 50 = .ok (.iload_n 3, 1) := by decide +kernel
theorem dL_leaf_51 : decode cL_leaf 51 = .ok (.iconst (-1), 1) := by decide +kernel
theorem dL_leaf_52 : decode cL_leaf 52 = .ok (.ixor, 1) := by decide +kernel
theorem dL_leaf_53 : decode cL_leaf 53 = .ok (.iand, 1) := by decide +kernel
theorem dL_leaf_54 : decode cL_leaf 54 = .ok (.ifCond .ne 49, 3) := by decide +kernel
theorem dL_leaf_57 : decode cL_leaf 57 = .ok (.iload_n 3, 1) := by decide +kernel
theorem dL_leaf_58 : decode cL_leaf 58 = .ok (.sipush 256, 3) := by decide +kernel
theorem dL_leaf_61 : decode cL_leaf 61 = .ok (.if_icmp .ge 42, 3) := by decide +kernel
theorem dL_leaf_64 : decode cL_leaf 64 = .ok (.iload 5, 2) := by decide +kernel
theorem dL_leaf_66 : decode cL_leaf 66 = .ok (.iconst 1, 1) := by decide +kernel
theorem dL_leaf_67 : decode cL_leaf 67 = .ok (.iload_n 2, 1) := by decide +kernel
theorem dL_leaf_68 : decode cL_leaf 68 = .ok (.ishl, 1) := by decide +kernel
theorem dL_leaf_69 : decode cL_leaf 69 = .ok (.if_icmp .ge 34, 3) := by decide +kernel
theorem dL_leaf_72 : decode cL_leaf 72 = .ok (.iload 7, 2) := by decide +kernel
theorem dL_leaf_74 : decode cL_leaf 74 = .ok (.ifCond .ne 8, 3) := by decide +kernel
theorem dL_leaf_77 : decode cL_leaf 77 = .ok (.iload 5, 2) := by decide +kernel
theorem dL_leaf_79 : decode cL_leaf 79 = .ok (.ifCond .ne 24, 3) := by decide +kernel
theorem dL_leaf_82 : decode cL_leaf 82 = .ok (.iload 6, 2) := by decide +kernel
theorem dL_leaf_84 : decode cL_leaf 84 = .ok (.iload_n 1, 1) := by decide +kernel
theorem dL_leaf_85 : decode cL_leaf 85 = .ok (.if_icmp .gt 18, 3) := by decide +kernel
theorem dL_leaf_88 : decode cL_leaf 88 = .ok (.aload_n 0, 1) := by decide +kernel
theorem dL_leaf_89 : decode cL_leaf 89 = .ok (.iload 6, 2) := by decide +kernel
theorem dL_leaf_91 : decode cL_leaf 91 = .ok (.invokevirtual 87, 3) := by decide +kernel
theorem dL_leaf_94 : decode cL_leaf 94 = .ok (.iload 6, 2) := by decide +kernel
theorem dL_leaf_96 : decode cL_leaf 96 = .ok (.if_icmp .ne 7, 3) := by decide +kernel
theorem dL_leaf_99 : decode cL_leaf 99 = .ok (.iconst 1, 1) := by decide +kernel
theorem dL_leaf_100 : decode cL_leaf 100 = .ok (.goto 4, 3) := by decide +kernel
theorem dL_leaf_103 : decode cL_leaf 103 = .ok (.iconst 0, 1) := by decide +kernel
theorem dL_leaf_104 : decode cL_leaf 104 = .ok (.istore 8, 2) := by decide +kernel
theorem dL_leaf_106 : decode cL_leaf 106 = .ok (.iload 8, 2) := by decide +kernel
theorem dL_leaf_108 : decode cL_leaf 108 = .ok (.ifCond .eq 26, 3) := by decide +kernel
theorem dL_leaf_111 : decode cL_leaf 111 = .ok (.aload_n 0, 1) := by decide +kernel
theorem dL_leaf_112 : decode cL_leaf 112 = .ok (.iload_n 1, 1) := by decide +kernel
theorem dL_leaf_113 : decode cL_leaf 113 = .ok (.invokevirtual 90, 3) := by decide +kernel
theorem dL_leaf_116 : decode cL_leaf 116 = .ok (.ifCond .lt 18, 3) := by decide +kernel
theorem dL_leaf_119 : decode cL_leaf 119 = .ok (.aload_n 0, 1) := by decide +kernel
theorem dL_leaf_120 : decode cL_leaf 120 = .ok (.iload_n 1, 1) := by decide +kernel
theorem dL_leaf_121 : decode cL_leaf 121 = .ok (.invokevirtual 90, 3) := by decide +kernel
theorem dL_leaf_124 : decode cL_leaf 124 = .ok (.sipush 4095, 3) := by decide +kernel
theorem dL_leaf_127 : decode cL_leaf 127 = .ok (.if_icmp .gt 7, 3) := by decide +kernel
theorem dL_leaf_130 : decode cL_leaf 130 = .ok (.iconst 1, 1) := by decide +kernel
theorem dL_leaf_131 : decode cL_leaf 131 = .ok (.goto 4, 3) := by decide +kernel
theorem dL_leaf_134 : decode cL_leaf 134 = .ok (.iconst 0, 1) := by decide +kernel
theorem dL_leaf_135 : decode cL_leaf 135 = .ok (.ireturn, 1) := by decide +kernel
theorem dL_law_0 : decode cL_law 0 = .ok (.new 16, 3) := by decide +kernel
theorem dL_law_3 : decode cL_law 3 = .ok (.dup, 1) := by decide +kernel
theorem dL_law_4 : decode cL_law 4 = .ok (.invokespecial 93, 3) := by decide +kernel
theorem dL_law_7 : decode cL_law 7 = .ok (.astore_n 1, 1) := by decide +kernel
theorem dL_law_8 : decode cL_law 8 = .ok (.iconst 0, 1) := by decide +kernel
theorem dL_law_9 : decode cL_law 9 = .ok (.istore_n 2, 1) := by decide +kernel
theorem dL_law_10 : decode cL_law 10 = .ok (.iconst 0, 1) := by decide +kernel
theorem dL_law_11 : decode cL_law 11 = .ok (.istore_n 3, 1) := by decide +kernel
theorem dL_law_12 : decode cL_law 12 = .ok (.iconst 0, 1) := by decide +kernel
theorem dL_law_13 : decode cL_law 13 = .ok (.istore 4, 2) := by decide +kernel
theorem dL_law_15 : decode cL_law 15 = .ok (.aload_n 1, 1) := by decide +kernel
theorem dL_law_16 : decode cL_law 16 = .ok (.invokevirtual 94, 3) := by decide +kernel
theorem dL_law_19 : decode cL_law 19 = .ok (.iconst (-1), 1) := by decide +kernel
theorem dL_law_20 : decode cL_law 20 = .ok (.if_icmp .ne 17, 3) := by decide +kernel
theorem dL_law_23 : decode cL_law 23 = .ok (.aload_n 1, 1) := by decide +kernel
theorem dL_law_24 : decode cL_law 24 = .ok (.iconst 0, 1) := by decide +kernel
theorem dL_law_25 : decode cL_law 25 = .ok (.iconst 1, 1) := by decide +kernel
theorem dL_law_26 : decode cL_law 26 = .ok (.invokevirtual 97, 3) := by decide +kernel
theorem dL_law_29 : decode cL_law 29 = .ok (.iconst 1, 1) := by decide +kernel
theorem dL_law_30 : decode cL_law 30 = .ok (.if_icmp .ne 7, 3) := by decide +kernel
theorem dL_law_33 : decode cL_law 33 = .ok (.iconst 1, 1) := by decide +kernel
theorem dL_law_34 : decode cL_law 34 = .ok (.goto 4, 3) := by decide +kernel
theorem dL_law_37 : decode cL_law 37 = .ok (.iconst 0, 1) := by decide +kernel
theorem dL_law_38 : decode cL_law 38 = .ok (.istore 5, 2) := by decide +kernel
theorem dL_law_40 : decode cL_law 40 = .ok (.bipush 10, 2) := by decide +kernel
theorem dL_law_42 : decode cL_law 42 = .ok (.aload_n 0, 1) := by decide +kernel
theorem dL_law_43 : decode cL_law 43 = .ok (.iconst 0, 1) := by decide +kernel
theorem dL_law_44 : decode cL_law 44 = .ok (.invokestatic 100, 3) := by decide +kernel
theorem dL_law_47 : decode cL_law 47 = .ok (.bipush 40, 2) := by decide +kernel
theorem dL_law_49 : decode cL_law 49 = .ok (.invokestatic 9, 3) := by decide +kernel
theorem dL_law_52 : decode cL_law 52 = .ok (.iadd, 1) := by decide +kernel
theorem dL_law_53 : decode cL_law 53 = .ok (.istore 6, 2) := by decide +kernel
theorem dL_law_55 : decode cL_law 55 = .ok (.iconst 0, 1) := by decide +kernel
theorem dL_law_56 : decode cL_law 56 = .ok (.istore 7, 2) := by decide +kernel
theorem dL_law_58 : decode cL_law 58 = .ok (.iload 7, 2) := by decide +kernel
theorem dL_law_60 : decode cL_law 60 = .ok (.iload 6, 2) := by decide +kernel
theorem dL_law_62 : decode cL_law 62 = .ok (.if_icmp .ge 1079, 3) := by decide +kernel
theorem dL_law_65 : decode cL_law 65 = .ok (.iload 5, 2) := by decide +kernel
theorem dL_law_67 : decode cL_law 67 = .ok (.ifCond .eq 1074, 3) := by decide +kernel
theorem dL_law_70 : decode cL_law 70 = .ok (.aload_n 0, 1) := by decide +kernel
theorem dL_law_71 : decode cL_law 71 = .ok (.iconst 1, 1) := by decide +kernel
theorem dL_law_72 : decode cL_law 72 = .ok (.iload 7, 2) := by decide +kernel
theorem dL_law_74 : decode cL_law 74 = .ok (.iadd, 1) := by decide +kernel
theorem dL_law_75 : decode cL_law 75 = .ok (.invokestatic 100, 3) := by decide +kernel
theorem dL_law_78 : decode cL_law 78 = .ok (.istore 8, 2) := by decide +kernel
theorem dL_law_80 : decode cL_law 80 = .ok (.iload 8, 2) := by decide +kernel
theorem dL_law_82 : decode cL_law 82 = .ok (.bipush 20, 2) := by decide +kernel
theorem dL_law_84 : decode cL_law 84 = .ok (.ishr, 1) := by decide +kernel
theorem dL_law_85 : decode cL_law 85 = .ok (.bipush 30, 2) := by decide +kernel
theorem dL_law_87 : decode cL_law 87 = .ok (.invokestatic 9, 3) := by decide +kernel
theorem dL_law_90 : decode cL_law 90 = .ok (.istore 9, 2) := by decide +kernel
theorem dL_law_92 : decode cL_law 92 = .ok (.iload_n 2, 1) := by decide +kernel
theorem dL_law_93 : decode cL_law 93 = .ok (.ifCond .ne 7, 3) := by decide +kernel
theorem dL_law_96 : decode cL_law 96 = .ok (.iconst 0, 1) := by decide +kernel
theorem dL_law_97 : decode cL_law 97 = .ok (.goto 11, 3) := by decide +kernel
theorem dL_law_100 : decode cL_law 100 = .ok (.iload 8, 2) := by decide +kernel
theorem dL_law_102 : decode cL_law 102 = .ok (.iconst 3, 1) := by decide +kernel
theorem dL_law_103 : decode cL_law 103 = .ok (.ishr, 1) := by decide +kernel
theorem dL_law_104 : decode cL_law 104 = .ok (.iload_n 2, 1) := by decide +kernel
theorem dL_law_105 : decode cL_law 105 = .ok (.invokestatic 9, 3) := by decide +kernel
theorem dL_law_108 : decode cL_law 108 = .ok (.istore 10, 2) := by decide +kernel
theorem dL_law_110 : decode cL_law 110 = .ok (.iload_n 2, 1) := by decide +kernel
theorem dL_law_111 : decode cL_law 111 = .ok (.ifCond .eq 14, 3) := by decide +kernel
theorem dL_law_114 : decode cL_law 114 = .ok (.iload 9, 2) := by decide +kernel
theorem dL_law_116 : decode cL_law 116 = .ok (.iconst 4, 1) := by decide +kernel
theorem dL_law_117 : decode cL_law 117 = .ok (.if_icmp .ge 97, 3) := by decide +kernel
theorem dL_law_120 : decode cL_law 120 = .ok (.iload_n 2, 1) := by decide +kernel
theorem dL_law_121 : decode cL_law 121 = .ok (.iconst 5, 1) := by decide +kernel
theorem dL_law_122 : decode cL_law 122 = .ok (.if_icmp .ge 92, 3) := by decide +kernel
theorem dL_law_125 : decode cL_law 125 = .ok (.aload_n 1, 1) := by decide +kernel
theorem dL_law_126 : decode cL_law 126 = .ok (.iconst 0, 1) := by decide +kernel
theorem dL_law_127 : decode cL_law 127 = .ok (.iload_n 2, 1) := by decide +kernel
theorem dL_law_128 : decode cL_law 128 = .ok (.ifCond .ne 7, 3) := by decide +kernel
theorem dL_law_131 : decode cL_law 131 = .ok (.iconst 0, 1) := by decide +kernel
theorem dL_law_132 : decode cL_law 132 = .ok (.goto 9, 3) := by decide +kernel
theorem dL_law_135 : decode cL_law 135 = .ok (.iload 8, 2) := by decide +kernel
theorem dL_law_137 : decode cL_law 137 = .ok (.iconst 2, 1) := by decide +kernel
theorem dL_law_138 : decode cL_law 138 = .ok (.invokestatic 9, 3) := by decide +kernel
theorem dL_law_141 : decode cL_law 141 = .ok (.iload 8, 2) := by decide +kernel
theorem dL_law_143 : decode cL_law 143 = .ok (.iconst 1, 1) := by decide +kernel
theorem dL_law_144 : decode cL_law 144 = .ok (.ishr, 1) := by decide +kernel
theorem dL_law_145 : decode cL_law 145 = .ok (.iload 8, 2) := by decide +kernel
theorem dL_law_147 : decode cL_law 147 = .ok (.bipush 9, 2) := by decide +kernel
theorem dL_law_149 : decode cL_law 149 = .ok (.ishr, 1) := by decide +kernel
theorem dL_law_150 : decode cL_law 150 = .ok (.iconst 3, 1) := by decide +kernel
theorem dL_law_151 : decode cL_law 151 = .ok (.invokestatic 9, 3) := by decide +kernel
theorem dL_law_154 : decode cL_law 154 = .ok (.ifCond .ne 17, 3) := by decide +kernel
theorem dL_law_157 : decode cL_law 157 = .ok (.iload 8, 2) := by decide +kernel
theorem dL_law_159 : decode cL_law 159 = .ok (.bipush 11, 2) := by decide +kernel
theorem dL_law_161 : decode cL_law 161 = .ok (.ishr, 1) := by decide +kernel
theorem dL_law_162 : decode cL_law 162 = .ok (.sipush 256, 3) := by decide +kernel
theorem dL_law_165 : decode cL_law 165 = .ok (.invokestatic 9, 3) := by decide +kernel
theorem dL_law_168 : decode cL_law 168 = .ok (.goto 4, 3) := by decide +kernel
theorem dL_law_171 : decode cL_law 171 = .ok (.iconst 0, 1) := by decide +kernel
theorem dL_law_172 : decode cL_law 172 = .ok (.invokestatic 104, 3) := by decide +kernel
theorem dL_law_175 : decode cL_law 175 = .ok (.istore 11, 2) := by decide +kernel
theorem dL_law_177 : decode cL_law 177 = .ok (.iload 11, 2) := by decide +kernel
theorem dL_law_179 : decode cL_law 179 = .ok (.iload_n 2, 1) := by decide +kernel
theorem dL_law_180 : decode cL_law 180 = .ok (.if_icmp .eq 10, 3) := by decide +kernel
theorem dL_law_183 : decode cL_law 183 = .ok (.iload 11, 2) := by decide +kernel
theorem dL_law_185 : decode cL_law 185 = .ok (.bipush (-9), 2) := by decide +kernel
theorem dL_law_187 : decode cL_law 187 = .ok (.if_icmp .ne 7, 3) := by decide +kernel
theorem dL_law_190 : decode cL_law 190 = .ok (.iconst 1, 1) := by decide +kernel
theorem dL_law_191 : decode cL_law 191 = .ok (.goto 4, 3) := by decide +kernel
theorem dL_law_194 : decode cL_law 194 = .ok (.iconst 0, 1) := by decide +kernel
theorem dL_law_195 : decode cL_law 195 = .ok (.istore 5, 2) := by decide +kernel
theorem dL_law_197 : decode cL_law 197 = .ok (.iload_n 2, 1) := by decide +kernel
theorem dL_law_198 : decode cL_law 198 = .ok (.iload 11, 2) := by decide +kernel
theorem dL_law_200 : decode cL_law 200 = .ok (.iload_n 2, 1) := by decide +kernel
theorem dL_law_201 : decode cL_law 201 = .ok (.if_icmp .ne 7, 3) := by decide +kernel
theorem dL_law_204 : decode cL_law 204 = .ok (.iconst 1, 1) := by decide +kernel
theorem dL_law_205 : decode cL_law 205 = .ok (.goto 4, 3) := by decide +kernel
theorem dL_law_208 : decode cL_law 208 = .ok (.iconst 0, 1) := by decide +kernel
theorem dL_law_209 : decode cL_law 209 = .ok (.iadd, 1) := by decide +kernel
theorem dL_law_210 : decode cL_law 210 = .ok (.istore_n 2, 1) := by decide +kernel
theorem dL_law_211 : decode cL_law 211 = .ok (.goto 817, 3) := by decide +kernel
theorem dL_law_214 : decode cL_law 214 = .ok (.iload 9, 2) := by decide +kernel
theorem dL_law_216 : decode cL_law 216 = .ok (.iconst 5, 1) := by decide +kernel
theorem dL_law_217 : decode cL_law 217 = .ok (.if_icmp .ge 56, 3) := by decide +kernel
theorem dL_law_220 : decode cL_law 220 = .ok (.aload_n 1, 1) := by decide +kernel
theorem dL_law_221 : decode cL_law 221 = .ok (.iconst 1, 1) := by decide +kernel
theorem dL_law_222 : decode cL_law 222 = .ok (.iload 8, 2) := by decide +kernel
theorem dL_law_224 : decode cL_law 224 = .ok (.iconst 2, 1) := by decide +kernel
theorem dL_law_225 : decode cL_law 225 = .ok (.invokestatic 9, 3) := by decide +kernel
theorem dL_law_228 : decode cL_law 228 = .ok (.iconst 2, 1) := by decide +kernel
theorem dL_law_229 : decode cL_law 229 = .ok (.iload 8, 2) := by decide +kernel
theorem dL_law_231 : decode cL_law 231 = .ok (.iconst 1, 1) := by decide +kernel
theorem dL_law_232 : decode cL_law 232 = .ok (.ishr, 1) := by decide +kernel
theorem dL_law_233 : decode cL_law 233 = .ok (.iconst 2, 1) := by decide +kernel
theorem dL_law_234 : decode cL_law 234 = .ok (.invokestatic 9, 3) := by decide +kernel
theorem dL_law_237 : decode cL_law 237 = .ok (.iadd, 1) := by decide +kernel
theorem dL_law_238 : decode cL_law 238 = .ok (.iconst 0, 1) := by decide +kernel
theorem dL_law_239 : decode cL_law 239 = .ok (.invokestatic 104, 3) := by decide +kernel
theorem dL_law_242 : decode cL_law 242 = .ok (.istore 11, 2) := by decide +kernel
theorem dL_law_244 : decode cL_law 244 = .ok (.iload 11, 2) := by decide +kernel
theorem dL_law_246 : decode cL_law 246 = .ok (.iconst 1, 1) := by decide +kernel
theorem dL_law_247 : decode cL_law 247 = .ok (.if_icmp .lt 9, 3) := by decide +kernel
theorem dL_law_250 : decode cL_law 250 = .ok (.iload 11, 2) := by decide +kernel
theorem dL_law_252 : decode cL_law 252 = .ok (.iconst 4, 1) := by decide +kernel
theorem dL_law_253 : decode cL_law 253 = .ok (.if_icmp .le 10, 3) := by decide +kernel
theorem dL_law_256 : decode cL_law 256 = .ok (.iload 11, 2) := by decide +kernel
theorem dL_law_258 : decode cL_law 258 = .ok (.bipush (-9), 2) := by decide +kernel
theorem dL_law_260 : decode cL_law 260 = .ok (.if_icmp .ne 7, 3) := by decide +kernel
theorem dL_law_263 : decode cL_law 263 = .ok (.iconst 1, 1) := by decide +kernel
theorem dL_law_264 : decode cL_law 264 = .ok (.goto 4, 3) := by decide +kernel
theorem dL_law_267 : decode cL_law 267 = .ok (.iconst 0, 1) := by decide +kernel
theorem dL_law_268 : decode cL_law 268 = .ok (.istore 5, 2) := by decide +kernel
theorem dL_law_270 : decode cL_law 270 = .ok (.goto 758, 3) := by decide +kernel
theorem dL_law_273 : decode cL_law 273 = .ok (.iload 9, 2) := by decide +kernel
theorem dL_law_275 : decode cL_law 275 = .ok (.bipush 11, 2) := by decide +kernel
theorem dL_law_277 : decode cL_law 277 = .ok (.if_icmp .ge 96, 3) := by decide +kernel
theorem dL_law_280 : decode cL_law 280 = .ok (.aload_n 1, 1) := by decide +kernel
theorem dL_law_281 : decode cL_law 281 = .ok (.iconst 2, 1) := by decide +kernel
theorem dL_law_282 : decode cL_law 282 = .ok (.iload 8, 2) := by decide +kernel
theorem dL_law_284 : decode cL_law 284 = .ok (.iconst 4, 1) := by decide +kernel
theorem dL_law_285 : decode cL_law 285 = .ok (.invokestatic 9, 3) := by decide +kernel
theorem dL_law_288 : decode cL_law 288 = .ok (.iconst 0, 1) := by decide +kernel
theorem dL_law_289 : decode cL_law 289 = .ok (.iconst 0, 1) := by decide +kernel
theorem dL_law_290 : decode cL_law 290 = .ok (.invokestatic 104, 3) := by decide +kernel
theorem dL_law_293 : decode cL_law 293 = .ok (.istore 11, 2) := by decide +kernel
theorem dL_law_295 : decode cL_law 295 = .ok (.iload 11, 2) := by decide +kernel
theorem dL_law_297 : decode cL_law 297 = .ok (.ifCond .gt 10, 3) := by decide +kernel
theorem dL_law_300 : decode cL_law 300 = .ok (.iload 11, 2) := by decide +kernel
theorem dL_law_302 : decode cL_law 302 = .ok (.bipush (-9), 2) := by decide +kernel
theorem dL_law_304 : decode cL_law 304 = .ok (.if_icmp .ne 7, 3) := by decide +kernel
theorem dL_law_307 : decode cL_law 307 = .ok (.iconst 1, 1) := by decide +kernel
theorem dL_law_308 : decode cL_law 308 = .ok (.goto 4, 3) := by decide +kernel
theorem dL_law_311 : decode cL_law 311 = .ok (.iconst 0, 1) := by decide +kernel
theorem dL_law_312 : decode cL_law 312 = .ok (.istore 5, 2) := by decide +kernel
theorem dL_law_314 : decode cL_law 314 = .ok (.iload 8, 2) := by decide +kernel
theorem dL_law_316 : decode cL_law 316 = .ok (.iconst 4, 1) := by decide +kernel
theorem dL_law_317 : decode cL_law 317 = .ok (.ishr, 1) := by decide +kernel
theorem dL_law_318 : decode cL_law 318 = .ok (.iconst 3, 1) := by decide +kernel
theorem dL_law_319 : decode cL_law 319 = .ok (.invokestatic 9, 3) := by decide +kernel
theorem dL_law_322 : decode cL_law 322 = .ok (.ifCond .ne 7, 3) := by decide +kernel
theorem dL_law_325 : decode cL_law 325 = .ok (.iconst 0, 1) := by decide +kernel
theorem dL_law_326 : decode cL_law 326 = .ok (.goto 11, 3) := by decide +kernel
theorem dL_law_329 : decode cL_law 329 = .ok (.aload_n 1, 1) := by decide +kernel
theorem dL_law_330 : decode cL_law 330 = .ok (.iconst 3, 1) := by decide +kernel
theorem dL_law_331 : decode cL_law 331 = .ok (.iconst 0, 1) := by decide +kernel
theorem dL_law_332 : decode cL_law 332 = .ok (.iconst 0, 1) := by decide +kernel
theorem dL_law_333 : decode cL_law 333 = .ok (.iconst 0, 1) := by decide +kernel
theorem dL_law_334 : decode cL_law 334 = .ok (.invokestatic 104, 3) := by decide +kernel
theorem dL_law_337 : decode cL_law 337 = .ok (.istore 12, 2) := by decide +kernel
theorem dL_law_339 : decode cL_law 339 = .ok (.iload 5, 2) := by decide +kernel
theorem dL_law_341 : decode cL_law 341 = .ok (.ifCond .eq 26, 3) := by decide +kernel
theorem dL_law_344 : decode cL_law 344 = .ok (.iload 12, 2) := by decide +kernel
theorem dL_law_346 : decode cL_law 346 = .ok (.ifCond .lt 10, 3) := by decide +kernel
theorem dL_law_349 : decode cL_law 349 = .ok (.iload 12, 2) := by decide +kernel
theorem dL_law_351 : decode cL_law 351 = .ok (.bipush 12, 2) := by decide +kernel
theorem dL_law_353 : decode cL_law 353 = .ok (.if_icmp .lt 10, 3) := by decide +kernel
theorem dL_law_356 : decode cL_law 356 = .ok (.iload 12, 2) := by decide +kernel
theorem dL_law_358 : decode cL_law 358 = .ok (.bipush (-9), 2) := by decide +kernel
theorem dL_law_360 : decode cL_law 360 = .ok (.if_icmp .ne 7, 3) := by decide +kernel
theorem dL_law_363 : decode cL_law 363 = .ok (.iconst 1, 1) := by decide +kernel
theorem dL_law_364 : decode cL_law 364 = .ok (.goto 4, 3) := by decide +kernel
theorem dL_law_367 : decode cL_law 367 = .ok (.iconst 0, 1) := by decide +kernel
theorem dL_law_368 : decode cL_law 368 = .ok (.istore 5, 2) := by decide +kernel
theorem dL_law_370 : decode cL_law 370 = .ok (.goto 658, 3) := by decide +kernel
theorem dL_law_373 : decode cL_law 373 = .ok (.iload 9, 2) := by decide +kernel
theorem dL_law_375 : decode cL_law 375 = .ok (.bipush 12, 2) := by decide +kernel
theorem dL_law_377 : decode cL_law 377 = .ok (.if_icmp .ge 54, 3) := by decide +kernel
theorem dL_law_380 : decode cL_law 380 = .ok (.aload_n 1, 1) := by decide +kernel
theorem dL_law_381 : decode cL_law 381 = .ok (.iconst 4, 1) := by decide +kernel
theorem dL_law_382 : decode cL_law 382 = .ok (.iconst 0, 1) := by decide +kernel
theorem dL_law_383 : decode cL_law 383 = .ok (.iconst 0, 1) := by decide +kernel
theorem dL_law_384 : decode cL_law 384 = .ok (.iconst 0, 1) := by decide +kernel
theorem dL_law_385 : decode cL_law 385 = .ok (.invokestatic 104, 3) := by decide +kernel
theorem dL_law_388 : decode cL_law 388 = .ok (.istore 11, 2) := by decide +kernel
theorem dL_law_390 : decode cL_law 390 = .ok (.iload 11, 2) := by decide +kernel
theorem dL_law_392 : decode cL_law 392 = .ok (.iload 4, 2) := by decide +kernel
theorem dL_law_394 : decode cL_law 394 = .ok (.if_icmp .eq 10, 3) := by decide +kernel
theorem dL_law_397 : decode cL_law 397 = .ok (.iload 11, 2) := by decide +kernel
theorem dL_law_399 : decode cL_law 399 = .ok (.bipush (-9), 2) := by decide +kernel
theorem dL_law_401 : decode cL_law 401 = .ok (.if_icmp .ne 7, 3) := by decide +kernel
theorem dL_law_404 : decode cL_law 404 = .ok (.iconst 1, 1) := by decide +kernel
theorem dL_law_405 : decode cL_law 405 = .ok (.goto 4, 3) := by decide +kernel
theorem dL_law_408 : decode cL_law 408 = .ok (.iconst 0, 1) := by decide +kernel
theorem dL_law_409 : decode cL_law 409 = .ok (.istore 5, 2) := by decide +kernel
theorem dL_law_411 : decode cL_law 411 = .ok (.iload 4, 2) := by decide +kernel
theorem dL_law_413 : decode cL_law 413 = .ok (.iload 11, 2) := by decide +kernel
theorem dL_law_415 : decode cL_law 415 = .ok (.iload 4, 2) := by decide +kernel
theorem dL_law_417 : decode cL_law 417 = .ok (.if_icmp .ne 7, 3) := by decide +kernel
theorem dL_law_420 : decode cL_law 420 = .ok (.iconst 1, 1) := by decide +kernel
theorem dL_law_421 : decode cL_law 421 = .ok (.goto 4, 3) := by decide +kernel
theorem dL_law_424 : decode cL_law 424 = .ok (.iconst 0, 1) := by decide +kernel
theorem dL_law_425 : decode cL_law 425 = .ok (.iadd, 1) := by decide +kernel
theorem dL_law_426 : decode cL_law 426 = .ok (.istore 4, 2) := by decide +kernel
theorem dL_law_428 : decode cL_law 428 = .ok (.goto 600, 3) := by decide +kernel
theorem dL_law_431 : decode cL_law 431 = .ok (.iload 9, 2) := by decide +kernel
theorem dL_law_433 : decode cL_law 433 = .ok (.bipush 17, 2) := by decide +kernel
theorem dL_law_435 : decode cL_law 435 = .ok (.if_icmp .ge 81, 3) := by decide +kernel
theorem dL_law_438 : decode cL_law 438 = .ok (.aload_n 1, 1) := by decide +kernel
theorem dL_law_439 : decode cL_law 439 = .ok (.iload 8, 2) := by decide +kernel
theorem dL_law_441 : decode cL_law 441 = .ok (.iconst 3, 1) := by decide +kernel
theorem dL_law_442 : decode cL_law 442 = .ok (.invokestatic 9, 3) := by decide +kernel
theorem dL_law_445 : decode cL_law 445 = .ok (.iload 10, 2) := by decide +kernel
theorem dL_law_447 : decode cL_law 447 = .ok (.iload 8, 2) := by decide +kernel
theorem dL_law_449 : decode cL_law 449 = .ok (.bipush 6, 2) := by decide +kernel
theorem dL_law_451 : decode cL_law 451 = .ok (.ishr, 1) := by decide +kernel
theorem dL_law_452 : decode cL_law 452 = .ok (.bipush 6, 2) := by decide +kernel
theorem dL_law_454 : decode cL_law 454 = .ok (.invokestatic 9, 3) := by decide +kernel
theorem dL_law_457 : decode cL_law 457 = .ok (.iload 8, 2) := by decide +kernel
theorem dL_law_459 : decode cL_law 459 = .ok (.bipush 9, 2) := by decide +kernel
theorem dL_law_461 : decode cL_law 461 = .ok (.ishr, 1) := by decide +kernel
theorem dL_law_462 : decode cL_law 462 = .ok (.iconst 4, 1) := by decide +kernel
theorem dL_law_463 : decode cL_law 463 = .ok (.invokestatic 9, 3) := by decide +kernel
theorem dL_law_466 : decode cL_law 466 = .ok (.iload 8, 2) := by decide +kernel
theorem dL_law_468 : decode cL_law 468 = .ok (.bipush 12, 2) := by decide +kernel
theorem dL_law_470 : decode cL_law 470 = .ok (.ishr, 1) := by decide +kernel
theorem dL_law_471 : decode cL_law 471 = .ok (.bipush 10, 2) := by decide +kernel
theorem dL_law_473 : decode cL_law 473 = .ok (.invokestatic 9, 3) := by decide +kernel
theorem dL_law_476 : decode cL_law 476 = .ok (.invokestatic 108, 3) := by decide +kernel
theorem dL_law_479 : decode cL_law 479 = .ok (.istore 11, 2) := by decide +kernel
theorem dL_law_481 : decode cL_law 481 = .ok (.iload 11, 2) := by decide +kernel
theorem dL_law_483 : decode cL_law 483 = .ok (.ifCond .lt 9, 3) := by decide +kernel
theorem dL_law_486 : decode cL_law 486 = .ok (.iload 11, 2) := by decide +kernel
theorem dL_law_488 : decode cL_law 488 = .ok (.iconst 3, 1) := by decide +kernel
theorem dL_law_489 : decode cL_law 489 = .ok (.if_icmp .le 17, 3) := by decide +kernel
theorem dL_law_492 : decode cL_law 492 = .ok (.iload 11, 2) := by decide +kernel
theorem dL_law_494 : decode cL_law 494 = .ok (.bipush (-8), 2) := by decide +kernel
theorem dL_law_496 : decode cL_law 496 = .ok (.if_icmp .eq 10, 3) := by decide +kernel
theorem dL_law_499 : decode cL_law 499 = .ok (.iload 11, 2) := by decide +kernel
theorem dL_law_501 : decode cL_law 501 = .ok (.bipush (-9), 2) := by decide +kernel
theorem dL_law_503 : decode cL_law 503 = .ok (.if_icmp .ne 7, 3) := by decide +kernel
theorem dL_law_506 : decode cL_law 506 = .ok (.iconst 1, 1) := by decide +kernel
theorem dL_law_507 : decode cL_law 507 = .ok (.goto 4, 3) := by decide +kernel
theorem dL_law_510 : decode cL_law 510 = .ok (.iconst 0, 1) := by decide +kernel
theorem dL_law_511 : decode cL_law 511 = .ok (.istore 5, 2) := by decide +kernel
theorem dL_law_513 : decode cL_law 513 = .ok (.goto 515, 3) := by decide +kernel
theorem dL_law_516 : decode cL_law 516 = .ok (.iload 9, 2) := by decide +kernel
theorem dL_law_518 : decode cL_law 518 = .ok (.bipush 20, 2) := by decide +kernel
theorem dL_law_520 : decode cL_law 520 = .ok (.if_icmp .ge 135, 3) := by decide +kernel
theorem dL_law_523 : decode cL_law 523 = .ok (.iload 8, 2) := by decide +kernel
theorem dL_law_525 : decode cL_law 525 = .ok (.bipush 6, 2) := by decide +kernel
theorem dL_law_527 : decode cL_law 527 = .ok (.ishr, 1) := by decide +kernel
theorem dL_law_528 : decode cL_law 528 = .ok (.bipush 6, 2) := by decide +kernel
theorem dL_law_530 : decode cL_law 530 = .ok (.invokestatic 9, 3) := by decide +kernel
theorem dL_law_533 : decode cL_law 533 = .ok (.istore 11, 2) := by decide +kernel
theorem dL_law_535 : decode cL_law 535 = .ok (.aload_n 1, 1) := by decide +kernel
theorem dL_law_536 : decode cL_law 536 = .ok (.iload 10, 2) := by decide +kernel
theorem dL_law_538 : decode cL_law 538 = .ok (.iload 11, 2) := by decide +kernel
theorem dL_law_540 : decode cL_law 540 = .ok (.iload 8, 2) := by decide +kernel
theorem dL_law_542 : decode cL_law 542 = .ok (.bipush 9, 2) := by decide +kernel
theorem dL_law_544 : decode cL_law 544 = .ok (.ishr, 1) := by decide +kernel
theorem dL_law_545 : decode cL_law 545 = .ok (.iconst 3, 1) := by decide +kernel
theorem dL_law_546 : decode cL_law 546 = .ok (.invokestatic 9, 3) := by decide +kernel
theorem dL_law_549 : decode cL_law 549 = .ok (.iload 8, 2) := by decide +kernel
theorem dL_law_551 : decode cL_law 551 = .ok (.bipush 11, 2) := by decide +kernel
theorem dL_law_553 : decode cL_law 553 = .ok (.ishr, 1) := by decide +kernel
theorem dL_law_554 : decode cL_law 554 = .ok (.iconst 5, 1) := by decide +kernel
theorem dL_law_555 : decode cL_law 555 = .ok (.invokestatic 9, 3) := by decide +kernel
theorem dL_law_558 : decode cL_law 558 = .ok (.ifCond .ne 7, 3) := by decide +kernel
theorem dL_law_561 : decode cL_law 561 = .ok (.iconst (-1), 1) := by decide +kernel
theorem dL_law_562 : decode cL_law 562 = .ok (.goto 13, 3) := by decide +kernel
theorem dL_law_565 : decode cL_law 565 = .ok (.iload 8, 2) := by decide +kernel
theorem dL_law_567 : decode cL_law 567 = .ok (.bipush 13, 2) := by decide +kernel
theorem dL_law_569 : decode cL_law 569 = .ok (.ishr, 1) := by decide +kernel
theorem dL_law_570 : decode cL_law 570 = .ok (.bipush 20, 2) := by decide +kernel
theorem dL_law_572 : decode cL_law 572 = .ok (.invokestatic 9, 3) := by decide +kernel
theorem dL_law_575 : decode cL_law 575 = .ok (.invokestatic 112, 3) := by decide +kernel
theorem dL_law_578 : decode cL_law 578 = .ok (.istore 12, 2) := by decide +kernel
theorem dL_law_580 : decode cL_law 580 = .ok (.iload 12, 2) := by decide +kernel
theorem dL_law_582 : decode cL_law 582 = .ok (.aload_n 1, 1) := by decide +kernel
theorem dL_law_583 : decode cL_law 583 = .ok (.iload 10, 2) := by decide +kernel
theorem dL_law_585 : decode cL_law 585 = .ok (.iload 11, 2) := by decide +kernel
theorem dL_law_587 : decode cL_law 587 = .ok (.iconst 1, 1) := by decide +kernel
theorem dL_law_588 : decode cL_law 588 = .ok (.invokestatic 65, 3) := by decide +kernel
theorem dL_law_591 : decode cL_law 591 = .ok (.if_icmp .ne 58, 3) := by decide +kernel
theorem dL_law_594 : decode cL_law 594 = .ok (.iload 12, 2) := by decide +kernel
theorem dL_law_596 : decode cL_law 596 = .ok (.bipush (-8), 2) := by decide +kernel
theorem dL_law_598 : decode cL_law 598 = .ok (.if_icmp .lt 51, 3) := by decide +kernel
theorem dL_law_601 : decode cL_law 601 = .ok (.iload 12, 2) := by decide +kernel
theorem dL_law_603 : decode cL_law 603 = .ok (.bipush 9, 2) := by decide +kernel
theorem dL_law_605 : decode cL_law 605 = .ok (.if_icmp .gt 44, 3) := by decide +kernel
theorem dL_law_608 : decode cL_law 608 = .ok (.iload 12, 2) := by decide +kernel
theorem dL_law_610 : decode cL_law 610 = .ok (.bipush (-8), 2) := by decide +kernel
theorem dL_law_612 : decode cL_law 612 = .ok (.if_icmp .eq 33, 3) := by decide +kernel
theorem dL_law_615 : decode cL_law 615 = .ok (.iload 12, 2) := by decide +kernel
theorem dL_law_617 : decode cL_law 617 = .ok (.ifCond .ge 7, 3) := by decide +kernel
theorem dL_law_620 : decode cL_law 620 = .ok (.iconst 1, 1) := by decide +kernel
theorem dL_law_621 : decode cL_law 621 = .ok (.goto 4, 3) := by decide +kernel
theorem dL_law_624 : decode cL_law 624 = .ok (.iconst 0, 1) := by decide +kernel
theorem dL_law_625 : decode cL_law 625 = .ok (.aload_n 1, 1) := by decide +kernel
theorem dL_law_626 : decode cL_law 626 = .ok (.iload 10, 2) := by decide +kernel
theorem dL_law_628 : decode cL_law 628 = .ok (.iload 11, 2) := by decide +kernel
theorem dL_law_630 : decode cL_law 630 = .ok (.iconst 0, 1) := by decide +kernel
theorem dL_law_631 : decode cL_law 631 = .ok (.invokestatic 65, 3) := by decide +kernel
theorem dL_law_634 : decode cL_law 634 = .ok (.ifCond .ge 7, 3) := by decide +kernel
theorem dL_law_637 : decode cL_law 637 = .ok (.iconst 1, 1) := by decide +kernel
theorem dL_law_638 : decode cL_law 638 = .ok (.goto 4, 3) := by decide +kernel
theorem dL_law_641 : decode cL_law 641 = .ok (.iconst 0, 1) := by decide +kernel
theorem dL_law_642 : decode cL_law 642 = .ok (.if_icmp .ne 7, 3) := by decide +kernel
theorem dL_law_645 : decode cL_law 645 = .ok (.iconst 1, 1) := by decide +kernel
theorem dL_law_646 : decode cL_law 646 = .ok (.goto 4, 3) := by decide +kernel
theorem dL_law_649 : decode cL_law 649 = .ok (.iconst 0, 1) := by decide +kernel
theorem dL_law_650 : decode cL_law 650 = .ok (.istore 5, 2) := by decide +kernel
theorem dL_law_652 : decode cL_law 652 = .ok (.goto 376, 3) := by decide +kernel
theorem dL_law_655 : decode cL_law 655 = .ok (.iload 9, 2) := by decide +kernel
theorem dL_law_657 : decode cL_law 657 = .ok (.bipush 21, 2) := by decide +kernel
theorem dL_law_659 : decode cL_law 659 = .ok (.if_icmp .ge 35, 3) := by decide +kernel
theorem dL_law_662 : decode cL_law 662 = .ok (.aload_n 1, 1) := by decide +kernel
theorem dL_law_663 : decode cL_law 663 = .ok (.iload 8, 2) := by decide +kernel
theorem dL_law_665 : decode cL_law 665 = .ok (.iconst 3, 1) := by decide +kernel
theorem dL_law_666 : decode cL_law 666 = .ok (.invokestatic 9, 3) := by decide +kernel
theorem dL_law_669 : decode cL_law 669 = .ok (.iload 8, 2) := by decide +kernel
theorem dL_law_671 : decode cL_law 671 = .ok (.iconst 2, 1) := by decide +kernel
theorem dL_law_672 : decode cL_law 672 = .ok (.ishr, 1) := by decide +kernel
theorem dL_law_673 : decode cL_law 673 = .ok (.bipush 10, 2) := by decide +kernel
theorem dL_law_675 : decode cL_law 675 = .ok (.invokestatic 9, 3) := by decide +kernel
theorem dL_law_678 : decode cL_law 678 = .ok (.iload 8, 2) := by decide +kernel
theorem dL_law_680 : decode cL_law 680 = .ok (.bipush 6, 2) := by decide +kernel
theorem dL_law_682 : decode cL_law 682 = .ok (.ishr, 1) := by decide +kernel
theorem dL_law_683 : decode cL_law 683 = .ok (.bipush 10, 2) := by decide +kernel
theorem dL_law_685 : decode cL_law 685 = .ok (.invokestatic 9, 3) := by decide +kernel
theorem dL_law_688 : decode cL_law 688 = .ok (.invokevirtual 115, 3) := by decide +kernel
theorem dL_law_691 : decode cL_law 691 = .ok (.goto 337, 3) := by decide +kernel
theorem dL_law_694 : decode cL_law 694 = .ok (.iload 9, 2) := by decide +kernel
theorem dL_law_696 : decode cL_law 696 = .ok (.bipush 25, 2) := by decide +kernel
theorem dL_law_698 : decode cL_law 698 = .ok (.if_icmp .ge 101, 3) := by decide +kernel
theorem dL_law_701 : decode cL_law 701 = .ok (.aload_n 1, 1) := by decide +kernel
theorem dL_law_702 : decode cL_law 702 = .ok (.iconst 5, 1) := by decide +kernel
theorem dL_law_703 : decode cL_law 703 = .ok (.iload 8, 2) := by decide +kernel
theorem dL_law_705 : decode cL_law 705 = .ok (.iconst 5, 1) := by decide +kernel
theorem dL_law_706 : decode cL_law 706 = .ok (.invokestatic 9, 3) := by decide +kernel
theorem dL_law_709 : decode cL_law 709 = .ok (.iload 10, 2) := by decide +kernel
theorem dL_law_711 : decode cL_law 711 = .ok (.iload 8, 2) := by decide +kernel
theorem dL_law_713 : decode cL_law 713 = .ok (.iconst 5, 1) := by decide +kernel
theorem dL_law_714 : decode cL_law 714 = .ok (.invokestatic 9, 3) := by decide +kernel
theorem dL_law_717 : decode cL_law 717 = .ok (.iconst 3, 1) := by decide +kernel
theorem dL_law_718 : decode cL_law 718 = .ok (.if_icmp .ne 16, 3) := by decide +kernel
theorem dL_law_721 : decode cL_law 721 = .ok (.iload 8, 2) := by decide +kernel
theorem dL_law_723 : decode cL_law 723 = .ok (.bipush 7, 2) := by decide +kernel
theorem dL_law_725 : decode cL_law 725 = .ok (.ishr, 1) := by decide +kernel
theorem dL_law_726 : decode cL_law 726 = .ok (.bipush 8, 2) := by decide +kernel
theorem dL_law_728 : decode cL_law 728 = .ok (.invokestatic 9, 3) := by decide +kernel
theorem dL_law_731 : decode cL_law 731 = .ok (.goto 12, 3) := by decide +kernel
theorem dL_law_734 : decode cL_law 734 = .ok (.iload 8, 2) := by decide +kernel
theorem dL_law_736 : decode cL_law 736 = .ok (.bipush 7, 2) := by decide +kernel
theorem dL_law_738 : decode cL_law 738 = .ok (.ishr, 1) := by decide +kernel
theorem dL_law_739 : decode cL_law 739 = .ok (.iload_n 2, 1) := by decide +kernel
theorem dL_law_740 : decode cL_law 740 = .ok (.invokestatic 9, 3) := by decide +kernel
theorem dL_law_743 : decode cL_law 743 = .ok (.invokestatic 104, 3) := by decide +kernel
theorem dL_law_746 : decode cL_law 746 = .ok (.istore 11, 2) := by decide +kernel
theorem dL_law_748 : decode cL_law 748 = .ok (.iload 11, 2) := by decide +kernel
theorem dL_law_750 : decode cL_law 750 = .ok (.iload_n 3, 1) := by decide +kernel
theorem dL_law_751 : decode cL_law 751 = .ok (.if_icmp .eq 24, 3) := by decide +kernel
theorem dL_law_754 : decode cL_law 754 = .ok (.iload 11, 2) := by decide +kernel
theorem dL_law_756 : decode cL_law 756 = .ok (.bipush (-9), 2) := by decide +kernel
theorem dL_law_758 : decode cL_law 758 = .ok (.if_icmp .eq 17, 3) := by decide +kernel
theorem dL_law_761 : decode cL_law 761 = .ok (.iload 11, 2) := by decide +kernel
theorem dL_law_763 : decode cL_law 763 = .ok (.bipush (-8), 2) := by decide +kernel
theorem dL_law_765 : decode cL_law 765 = .ok (.if_icmp .eq 10, 3) := by decide +kernel
theorem dL_law_768 : decode cL_law 768 = .ok (.iload 11, 2) := by decide +kernel
theorem dL_law_770 : decode cL_law 770 = .ok (.bipush (-7), 2) := by decide +kernel
theorem dL_law_772 : decode cL_law 772 = .ok (.if_icmp .ne 7, 3) := by decide +kernel
theorem dL_law_775 : decode cL_law 775 = .ok (.iconst 1, 1) := by decide +kernel
theorem dL_law_776 : decode cL_law 776 = .ok (.goto 4, 3) := by decide +kernel
theorem dL_law_779 : decode cL_law 779 = .ok (.iconst 0, 1) := by decide +kernel
theorem dL_law_780 : decode cL_law 780 = .ok (.istore 5, 2) := by decide +kernel
theorem dL_law_782 : decode cL_law 782 = .ok (.iload_n 3, 1) := by decide +kernel
theorem dL_law_783 : decode cL_law 783 = .ok (.iload 11, 2) := by decide +kernel
theorem dL_law_785 : decode cL_law 785 = .ok (.iload_n 3, 1) := by decide +kernel
theorem dL_law_786 : decode cL_law 786 = .ok (.if_icmp .ne 7, 3) := by decide +kernel
theorem dL_law_789 : decode cL_law 789 = .ok (.iconst 1, 1) := by decide +kernel
theorem dL_law_790 : decode cL_law 790 = .ok (.goto 4, 3) := by decide +kernel
theorem dL_law_793 : decode cL_law 793 = .ok (.iconst 0, 1) := by decide +kernel
theorem dL_law_794 : decode cL_law 794 = .ok (.iadd, 1) := by decide +kernel
theorem dL_law_795 : decode cL_law 795 = .ok (.istore_n 3, 1) := by decide +kernel
theorem dL_law_796 : decode cL_law 796 = .ok (.goto 232, 3) := by decide +kernel
theorem dL_law_799 : decode cL_law 799 = .ok (.iload 9, 2) := by decide +kernel
theorem dL_law_801 : decode cL_law 801 = .ok (.bipush 26, 2) := by decide +kernel
theorem dL_law_803 : decode cL_law 803 = .ok (.if_icmp .ge 86, 3) := by decide +kernel
theorem dL_law_806 : decode cL_law 806 = .ok (.iload_n 3, 1) := by decide +kernel
theorem dL_law_807 : decode cL_law 807 = .ok (.ifCond .ne 7, 3) := by decide +kernel
theorem dL_law_810 : decode cL_law 810 = .ok (.iconst 0, 1) := by decide +kernel
theorem dL_law_811 : decode cL_law 811 = .ok (.goto 12, 3) := by decide +kernel
theorem dL_law_814 : decode cL_law 814 = .ok (.iload 8, 2) := by decide +kernel
theorem dL_law_816 : decode cL_law 816 = .ok (.bipush 7, 2) := by decide +kernel
theorem dL_law_818 : decode cL_law 818 = .ok (.ishr, 1) := by decide +kernel
theorem dL_law_819 : decode cL_law 819 = .ok (.iload_n 3, 1) := by decide +kernel
theorem dL_law_820 : decode cL_law 820 = .ok (.invokestatic 9, 3) := by decide +kernel
theorem dL_law_823 : decode cL_law 823 = .ok (.istore 11, 2) := by decide +kernel
theorem dL_law_825 : decode cL_law 825 = .ok (.iload 8, 2) := by decide +kernel
theorem dL_law_827 : decode cL_law 827 = .ok (.iconst 2, 1) := by decide +kernel
theorem dL_law_828 : decode cL_law 828 = .ok (.invokestatic 9, 3) := by decide +kernel
theorem dL_law_831 : decode cL_law 831 = .ok (.ifCond .ne 7, 3) := by decide +kernel
theorem dL_law_834 : decode cL_law 834 = .ok (.iconst 1, 1) := by decide +kernel
theorem dL_law_835 : decode cL_law 835 = .ok (.goto 4, 3) := by decide +kernel
theorem dL_law_838 : decode cL_law 838 = .ok (.iconst 0, 1) := by decide +kernel
theorem dL_law_839 : decode cL_law 839 = .ok (.istore 12, 2) := by decide +kernel
theorem dL_law_841 : decode cL_law 841 = .ok (.iload_n 3, 1) := by decide +kernel
theorem dL_law_842 : decode cL_law 842 = .ok (.ifCond .eq 37, 3) := by decide +kernel
theorem dL_law_845 : decode cL_law 845 = .ok (.aload_n 1, 1) := by decide +kernel
theorem dL_law_846 : decode cL_law 846 = .ok (.iload 11, 2) := by decide +kernel
theorem dL_law_848 : decode cL_law 848 = .ok (.iload 12, 2) := by decide +kernel
theorem dL_law_850 : decode cL_law 850 = .ok (.invokevirtual 119, 3) := by decide +kernel
theorem dL_law_853 : decode cL_law 853 = .ok (.ifCond .ne 13, 3) := by decide +kernel
theorem dL_law_856 : decode cL_law 856 = .ok (.iload 12, 2) := by decide +kernel
theorem dL_law_858 : decode cL_law 858 = .ok (.ifCond .eq 8, 3) := by decide +kernel
theorem dL_law_861 : decode cL_law 861 = .ok (.iload 12, 2) := by decide +kernel
theorem dL_law_863 : decode cL_law 863 = .ok (.ifCond .eq 20, 3) := by decide +kernel
theorem dL_law_866 : decode cL_law 866 = .ok (.aload_n 1, 1) := by decide +kernel
theorem dL_law_867 : decode cL_law 867 = .ok (.iload 11, 2) := by decide +kernel
theorem dL_law_869 : decode cL_law 869 = .ok (.iload 12, 2) := by decide +kernel
theorem dL_law_871 : decode cL_law 871 = .ok (.invokevirtual 119, 3) := by decide +kernel
theorem dL_law_874 : decode cL_law 874 = .ok (.iload 12, 2) := by decide +kernel
theorem dL_law_876 : decode cL_law 876 = .ok (.if_icmp .ne 7, 3) := by decide +kernel
theorem dL_law_879 : decode cL_law 879 = .ok (.iconst 1, 1) := by decide +kernel
theorem dL_law_880 : decode cL_law 880 = .ok (.goto 4, 3) := by decide +kernel
theorem dL_law_883 : decode cL_law 883 = .ok (.iconst 0, 1) := by decide +kernel
theorem dL_law_884 : decode cL_law 884 = .ok (.istore 5, 2) := by decide +kernel
theorem dL_law_886 : decode cL_law 886 = .ok (.goto 142, 3) := by decide +kernel
theorem dL_law_889 : decode cL_law 889 = .ok (.iload 9, 2) := by decide +kernel
theorem dL_law_891 : decode cL_law 891 = .ok (.bipush 28, 2) := by decide +kernel
theorem dL_law_893 : decode cL_law 893 = .ok (.if_icmp .ge 67, 3) := by decide +kernel
theorem dL_law_896 : decode cL_law 896 = .ok (.aload_n 1, 1) := by decide +kernel
theorem dL_law_897 : decode cL_law 897 = .ok (.iload 10, 2) := by decide +kernel
theorem dL_law_899 : decode cL_law 899 = .ok (.iload 8, 2) := by decide +kernel
theorem dL_law_901 : decode cL_law 901 = .ok (.bipush 21, 2) := by decide +kernel
theorem dL_law_903 : decode cL_law 903 = .ok (.invokestatic 9, 3) := by decide +kernel
theorem dL_law_906 : decode cL_law 906 = .ok (.iload 8, 2) := by decide +kernel
theorem dL_law_908 : decode cL_law 908 = .ok (.iconst 5, 1) := by decide +kernel
theorem dL_law_909 : decode cL_law 909 = .ok (.ishr, 1) := by decide +kernel
theorem dL_law_910 : decode cL_law 910 = .ok (.bipush 21, 2) := by decide +kernel
theorem dL_law_912 : decode cL_law 912 = .ok (.invokestatic 9, 3) := by decide +kernel
theorem dL_law_915 : decode cL_law 915 = .ok (.iload 8, 2) := by decide +kernel
theorem dL_law_917 : decode cL_law 917 = .ok (.bipush 9, 2) := by decide +kernel
theorem dL_law_919 : decode cL_law 919 = .ok (.ishr, 1) := by decide +kernel
theorem dL_law_920 : decode cL_law 920 = .ok (.iconst 4, 1) := by decide +kernel
theorem dL_law_921 : decode cL_law 921 = .ok (.invokestatic 9, 3) := by decide +kernel
theorem dL_law_924 : decode cL_law 924 = .ok (.iload 8, 2) := by decide +kernel
theorem dL_law_926 : decode cL_law 926 = .ok (.bipush 12, 2) := by decide +kernel
theorem dL_law_928 : decode cL_law 928 = .ok (.ishr, 1) := by decide +kernel
theorem dL_law_929 : decode cL_law 929 = .ok (.iconst 4, 1) := by decide +kernel
theorem dL_law_930 : decode cL_law 930 = .ok (.invokestatic 9, 3) := by decide +kernel
theorem dL_law_933 : decode cL_law 933 = .ok (.invokevirtual 123, 3) := by decide +kernel
theorem dL_law_936 : decode cL_law 936 = .ok (.istore 11, 2) := by decide +kernel
theorem dL_law_938 : decode cL_law 938 = .ok (.iload 11, 2) := by decide +kernel
theorem dL_law_940 : decode cL_law 940 = .ok (.iconst 1, 1) := by decide +kernel
theorem dL_law_941 : decode cL_law 941 = .ok (.if_icmp .lt 13, 3) := by decide +kernel
theorem dL_law_944 : decode cL_law 944 = .ok (.iload 11, 2) := by decide +kernel
theorem dL_law_946 : decode cL_law 946 = .ok (.iload_n 2, 1) := by decide +kernel
theorem dL_law_947 : decode cL_law 947 = .ok (.if_icmp .gt 7, 3) := by decide +kernel
theorem dL_law_950 : decode cL_law 950 = .ok (.iconst 1, 1) := by decide +kernel
theorem dL_law_951 : decode cL_law 951 = .ok (.goto 4, 3) := by decide +kernel
theorem dL_law_954 : decode cL_law 954 = .ok (.iconst 0, 1) := by decide +kernel
theorem dL_law_955 : decode cL_law 955 = .ok (.istore 5, 2) := by decide +kernel
theorem dL_law_957 : decode cL_law 957 = .ok (.goto 71, 3) := by decide +kernel
theorem dL_law_960 : decode cL_law 960 = .ok (.aload_n 1, 1) := by decide +kernel
theorem dL_law_961 : decode cL_law 961 = .ok (.iload 10, 2) := by decide +kernel
theorem dL_law_963 : decode cL_law 963 = .ok (.invokevirtual 90, 3) := by decide +kernel
theorem dL_law_966 : decode cL_law 966 = .ok (.istore 11, 2) := by decide +kernel
theorem dL_law_968 : decode cL_law 968 = .ok (.aload_n 1, 1) := by decide +kernel
theorem dL_law_969 : decode cL_law 969 = .ok (.bipush 6, 2) := by decide +kernel
theorem dL_law_971 : decode cL_law 971 = .ok (.iload 10, 2) := by decide +kernel
theorem dL_law_973 : decode cL_law 973 = .ok (.iload 8, 2) := by decide +kernel
theorem dL_law_975 : decode cL_law 975 = .ok (.sipush 4096, 3) := by decide +kernel
theorem dL_law_978 : decode cL_law 978 = .ok (.invokestatic 9, 3) := by decide +kernel
theorem dL_law_981 : decode cL_law 981 = .ok (.iconst 0, 1) := by decide +kernel
theorem dL_law_982 : decode cL_law 982 = .ok (.invokestatic 104, 3) := by decide +kernel
theorem dL_law_985 : decode cL_law 985 = .ok (.istore 12, 2) := by decide +kernel
theorem dL_law_987 : decode cL_law 987 = .ok (.iload 12, 2) := by decide +kernel
theorem dL_law_989 : decode cL_law 989 = .ok (.bipush (-9), 2) := by decide +kernel
theorem dL_law_991 : decode cL_law 991 = .ok (.if_icmp .eq 30, 3) := by decide +kernel
theorem dL_law_994 : decode cL_law 994 = .ok (.iload 12, 2) := by decide +kernel
theorem dL_law_996 : decode cL_law 996 = .ok (.iload 11, 2) := by decide +kernel
theorem dL_law_998 : decode cL_law 998 = .ok (.iload 8, 2) := by decide +kernel
theorem dL_law_1000 : decode cL_law 1000 = .ok (.sipush 4096, 3) := by decide +kernel
theorem dL_law_1003 : decode cL_law 1003 = .ok (.invokestatic 9, 3) := by decide +kernel
theorem dL_law_1006 : decode cL_law 1006 = .ok (.iand, 1) := by decide +kernel
theorem dL_law_1007 : decode cL_law 1007 = .ok (.if_icmp .ne 18, 3) := by decide +kernel
theorem dL_law_1010 : decode cL_law 1010 = .ok (.iload 12, 2) := by decide +kernel
theorem dL_law_1012 : decode cL_law 1012 = .ok (.aload_n 1, 1) := by decide +kernel
theorem dL_law_1013 : decode cL_law 1013 = .ok (.iload 10, 2) := by decide +kernel
theorem dL_law_1015 : decode cL_law 1015 = .ok (.invokevirtual 90, 3) := by decide +kernel
theorem dL_law_1018 : decode cL_law 1018 = .ok (.if_icmp .ne 7, 3) := by decide +kernel
theorem dL_law_1021 : decode cL_law 1021 = .ok (.iconst 1, 1) := by decide +kernel
theorem dL_law_1022 : decode cL_law 1022 = .ok (.goto 4, 3) := by decide +kernel
theorem dL_law_1025 : decode cL_law 1025 = .ok (.iconst 0, 1) := by decide +kernel
theorem dL_law_1026 : decode cL_law 1026 = .ok (.istore 5, 2) := by decide +kernel
theorem dL_law_1028 : decode cL_law 1028 = .ok (.iload 8, 2) := by decide +kernel
theorem dL_law_1030 : decode cL_law 1030 = .ok (.iconst 1, 1) := by decide +kernel
theorem dL_law_1031 : decode cL_law 1031 = .ok (.ishr, 1) := by decide +kernel
theorem dL_law_1032 : decode cL_law 1032 = .ok (.iconst 2, 1) := by decide +kernel
theorem dL_law_1033 : decode cL_law 1033 = .ok (.invokestatic 9, 3) := by decide +kernel
theorem dL_law_1036 : decode cL_law 1036 = .ok (.istore 11, 2) := by decide +kernel
theorem dL_law_1038 : decode cL_law 1038 = .ok (.iload 5, 2) := by decide +kernel
theorem dL_law_1040 : decode cL_law 1040 = .ok (.ifCond .eq 24, 3) := by decide +kernel
theorem dL_law_1043 : decode cL_law 1043 = .ok (.aload_n 1, 1) := by decide +kernel
theorem dL_law_1044 : decode cL_law 1044 = .ok (.iload 11, 2) := by decide +kernel
theorem dL_law_1046 : decode cL_law 1046 = .ok (.iconst 1, 1) := by decide +kernel
theorem dL_law_1047 : decode cL_law 1047 = .ok (.invokevirtual 97, 3) := by decide +kernel
theorem dL_law_1050 : decode cL_law 1050 = .ok (.aload_n 1, 1) := by decide +kernel
theorem dL_law_1051 : decode cL_law 1051 = .ok (.iload 11, 2) := by decide +kernel
theorem dL_law_1053 : decode cL_law 1053 = .ok (.iconst 0, 1) := by decide +kernel
theorem dL_law_1054 : decode cL_law 1054 = .ok (.invokevirtual 97, 3) := by decide +kernel
theorem dL_law_1057 : decode cL_law 1057 = .ok (.if_icmp .gt 7, 3) := by decide +kernel
theorem dL_law_1060 : decode cL_law 1060 = .ok (.iconst 1, 1) := by decide +kernel
theorem dL_law_1061 : decode cL_law 1061 = .ok (.goto 4, 3) := by decide +kernel
theorem dL_law_1064 : decode cL_law 1064 = .ok (.iconst 0, 1) := by decide +kernel
theorem dL_law_1065 : decode cL_law 1065 = .ok (.istore 5, 2) := by decide +kernel
theorem dL_law_1067 : decode cL_law 1067 = .ok (.iload 5, 2) := by decide +kernel
theorem dL_law_1069 : decode cL_law 1069 = .ok (.ifCond .eq 63, 3) := by decide +kernel
theorem dL_law_1072 : decode cL_law 1072 = .ok (.iload_n 2, 1) := by decide +kernel
theorem dL_law_1073 : decode cL_law 1073 = .ok (.ifCond .eq 22, 3) := by decide +kernel
theorem dL_law_1076 : decode cL_law 1076 = .ok (.iload 8, 2) := by decide +kernel
theorem dL_law_1078 : decode cL_law 1078 = .ok (.iconst 5, 1) := by decide +kernel
theorem dL_law_1079 : decode cL_law 1079 = .ok (.invokestatic 9, 3) := by decide +kernel
theorem dL_law_1082 : decode cL_law 1082 = .ok (.ifCond .gt 13, 3) := by decide +kernel
theorem dL_law_1085 : decode cL_law 1085 = .ok (.aload_n 1, 1) := by decide +kernel
theorem dL_law_1086 : decode cL_law 1086 = .ok (.iload 10, 2) := by decide +kernel
theorem dL_law_1088 : decode cL_law 1088 = .ok (.iload_n 3, 1) := by decide +kernel
theorem dL_law_1089 : decode cL_law 1089 = .ok (.invokestatic 126, 3) := by decide +kernel
theorem dL_law_1092 : decode cL_law 1092 = .ok (.ifCond .eq 40, 3) := by decide +kernel
theorem dL_law_1095 : decode cL_law 1095 = .ok (.iload_n 2, 1) := by decide +kernel
theorem dL_law_1096 : decode cL_law 1096 = .ok (.ifCond .eq 32, 3) := by decide +kernel
theorem dL_law_1099 : decode cL_law 1099 = .ok (.iload 8, 2) := by decide +kernel
theorem dL_law_1101 : decode cL_law 1101 = .ok (.iconst 2, 1) := by decide +kernel
theorem dL_law_1102 : decode cL_law 1102 = .ok (.ishr, 1) := by decide +kernel
theorem dL_law_1103 : decode cL_law 1103 = .ok (.iconst 3, 1) := by decide +kernel
theorem dL_law_1104 : decode cL_law 1104 = .ok (.invokestatic 9, 3) := by decide +kernel
theorem dL_law_1107 : decode cL_law 1107 = .ok (.ifCond .gt 21, 3) := by decide +kernel
theorem dL_law_1110 : decode cL_law 1110 = .ok (.aload_n 1, 1) := by decide +kernel
theorem dL_law_1111 : decode cL_law 1111 = .ok (.iload 10, 2) := by decide +kernel
theorem dL_law_1113 : decode cL_law 1113 = .ok (.iload 8, 2) := by decide +kernel
theorem dL_law_1115 : decode cL_law 1115 = .ok (.bipush 8, 2) := by decide +kernel
theorem dL_law_1117 : decode cL_law 1117 = .ok (.invokestatic 9, 3) := by decide +kernel
theorem dL_law_1120 : decode cL_law 1120 = .ok (.iload 4, 2) := by decide +kernel
theorem dL_law_1122 : decode cL_law 1122 = .ok (.invokestatic 129, 3) := by decide +kernel
theorem dL_law_1125 : decode cL_law 1125 = .ok (.ifCond .eq 7, 3) := by decide +kernel
theorem dL_law_1128 : decode cL_law 1128 = .ok (.iconst 1, 1) := by decide +kernel
theorem dL_law_1129 : decode cL_law 1129 = .ok (.goto 4, 3) := by decide +kernel
theorem dL_law_1132 : decode cL_law 1132 = .ok (.iconst 0, 1) := by decide +kernel
theorem dL_law_1133 : decode cL_law 1133 = .ok (.istore 5, 2) := by decide +kernel
theorem dL_law_1135 : decode cL_law 1135 = .ok (.iinc 7 1, 3) := by decide +kernel
theorem dL_law_1138 : decode cL_law 1138 = .ok (.goto (-1080), 3) := by decide +kernel
theorem dL_law_1141 : decode cL_law 1141 = .ok (.aload_n 1, 1) := by decide +kernel
theorem dL_law_1142 : decode cL_law 1142 = .ok (.invokevirtual 94, 3) := by decide +kernel
theorem dL_law_1145 : decode cL_law 1145 = .ok (.istore 7, 2) := by decide +kernel
theorem dL_law_1147 : decode cL_law 1147 = .ok (.iload 5, 2) := by decide +kernel
theorem dL_law_1149 : decode cL_law 1149 = .ok (.ifCond .eq 19, 3) := by decide +kernel
theorem dL_law_1152 : decode cL_law 1152 = .ok (.iload 7, 2) := by decide +kernel
theorem dL_law_1154 : decode cL_law 1154 = .ok (.iconst (-1), 1) := by decide +kernel
theorem dL_law_1155 : decode cL_law 1155 = .ok (.if_icmp .lt 13, 3) := by decide +kernel
theorem dL_law_1158 : decode cL_law 1158 = .ok (.iload 7, 2) := by decide +kernel
theorem dL_law_1160 : decode cL_law 1160 = .ok (.iload_n 2, 1) := by decide +kernel
theorem dL_law_1161 : decode cL_law 1161 = .ok (.if_icmp .ge 7, 3) := by decide +kernel
theorem dL_law_1164 : decode cL_law 1164 = .ok (.iconst 1, 1) := by decide +kernel
theorem dL_law_1165 : decode cL_law 1165 = .ok (.goto 4, 3) := by decide +kernel
theorem dL_law_1168 : decode cL_law 1168 = .ok (.iconst 0, 1) := by decide +kernel
theorem dL_law_1169 : decode cL_law 1169 = .ok (.ireturn, 1) := by decide +kernel
