theorem dX4_init_0 : decode cX4_init 0 = .ok (.aload_n 0, 1) := by decide +kernel
theorem dX4_init_1 : decode cX4_init 1 = .ok (.invokespecial 1, 3) := by decide +kernel
theorem dX4_init_4 : decode cX4_init 4 = .ok (.aload_n 0, 1) := by decide +kernel
theorem dX4_init_5 : decode cX4_init 5 = .ok (.bipush 90, 2) := by decide +kernel
theorem dX4_init_7 : decode cX4_init 7 = .ok (.newarray .int, 2) := by decide +kernel
theorem dX4_init_9 : decode cX4_init 9 = .ok (.putfield 9, 3) := by decide +kernel
theorem dX4_init_12 : decode cX4_init 12 = .ok (.aload_n 0, 1) := by decide +kernel
theorem dX4_init_13 : decode cX4_init 13 = .ok (.new 13, 3) := by decide +kernel
theorem dX4_init_16 : decode cX4_init 16 = .ok (.dup, 1) := by decide +kernel
theorem dX4_init_17 : decode cX4_init 17 = .ok (.invokespecial 15, 3) := by decide +kernel
theorem dX4_init_20 : decode cX4_init 20 = .ok (.putfield 16, 3) := by decide +kernel
theorem dX4_init_23 : decode cX4_init 23 = .ok (.aload_n 0, 1) := by decide +kernel
theorem dX4_init_24 : decode cX4_init 24 = .ok (.new 20, 3) := by decide +kernel
theorem dX4_init_27 : decode cX4_init 27 = .ok (.dup, 1) := by decide +kernel
theorem dX4_init_28 : decode cX4_init 28 = .ok (.invokespecial 22, 3) := by decide +kernel
theorem dX4_init_31 : decode cX4_init 31 = .ok (.putfield 23, 3) := by decide +kernel
theorem dX4_init_34 : decode cX4_init 34 = .ok (.aload_n 0, 1) := by decide +kernel
theorem dX4_init_35 : decode cX4_init 35 = .ok (.new 27, 3) := by decide +kernel
theorem dX4_init_38 : decode cX4_init 38 = .ok (.dup, 1) := by decide +kernel
theorem dX4_init_39 : decode cX4_init 39 = .ok (.aload_n 0, 1) := by decide +kernel
theorem dX4_init_40 : decode cX4_init 40 = .ok (.getfield 23, 3) := by decide +kernel
theorem dX4_init_43 : decode cX4_init 43 = .ok (.invokespecial 29, 3) := by decide +kernel
theorem dX4_init_46 : decode cX4_init 46 = .ok (.putfield 32, 3) := by decide +kernel
theorem dX4_init_49 : decode cX4_init 49 = .ok (.aload_n 0, 1) := by decide +kernel
theorem dX4_init_50 : decode cX4_init 50 = .ok (.new 27, 3) := by decide +kernel
theorem dX4_init_53 : decode cX4_init 53 = .ok (.dup, 1) := by decide +kernel
theorem dX4_init_54 : decode cX4_init 54 = .ok (.aload_n 0, 1) := by decide +kernel
theorem dX4_init_55 : decode cX4_init 55 = .ok (.getfield 23, 3) := by decide +kernel
theorem dX4_init_58 : decode cX4_init 58 = .ok (.invokespecial 29, 3) := by decide +kernel
theorem dX4_init_61 : decode cX4_init 61 = .ok (.putfield 36, 3) := by decide +kernel
theorem dX4_init_64 : decode cX4_init 64 = .ok (.aload_n 0, 1) := by decide +kernel
theorem dX4_init_65 : decode cX4_init 65 = .ok (.bipush 14, 2) := by decide +kernel
theorem dX4_init_67 : decode cX4_init 67 = .ok (.anewarray 27, 3) := by decide +kernel
theorem dX4_init_70 : decode cX4_init 70 = .ok (.putfield 39, 3) := by decide +kernel
theorem dX4_init_73 : decode cX4_init 73 = .ok (.aload_n 0, 1) := by decide +kernel
theorem dX4_init_74 : decode cX4_init 74 = .ok (.iconst 2, 1) := by decide +kernel
theorem dX4_init_75 : decode cX4_init 75 = .ok (.anewarray 27, 3) := by decide +kernel
theorem dX4_init_78 : decode cX4_init 78 = .ok (.putfield 43, 3) := by decide +kernel
theorem dX4_init_81 : decode cX4_init 81 = .ok (.aload_n 0, 1) := by decide +kernel
theorem dX4_init_82 : decode cX4_init 82 = .ok (.iconst 2, 1) := by decide +kernel
theorem dX4_init_83 : decode cX4_init 83 = .ok (.newarray .boolean, 2) := by decide +kernel
theorem dX4_init_85 : decode cX4_init 85 = .ok (.putfield 46, 3) := by decide +kernel
theorem dX4_init_88 : decode cX4_init 88 = .ok (.aload_n 0, 1) := by decide +kernel
theorem dX4_init_89 : decode cX4_init 89 = .ok (.bipush 6, 2) := by decide +kernel
theorem dX4_init_91 : decode cX4_init 91 = .ok (.newarray .int, 2) := by decide +kernel
theorem dX4_init_93 : decode cX4_init 93 = .ok (.putfield 50, 3) := by decide +kernel
theorem dX4_init_96 : decode cX4_init 96 = .ok (.aload_n 0, 1) := by decide +kernel
theorem dX4_init_97 : decode cX4_init 97 = .ok (.bipush 6, 2) := by decide +kernel
theorem dX4_init_99 : decode cX4_init 99 = .ok (.newarray .int, 2) := by decide +kernel
theorem dX4_init_101 : decode cX4_init 101 = .ok (.putfield 53, 3) := by decide +kernel
theorem dX4_init_104 : decode cX4_init 104 = .ok (.aload_n 0, 1) := by decide +kernel
theorem dX4_init_105 : decode cX4_init 105 = .ok (.bipush 6, 2) := by decide +kernel
theorem dX4_init_107 : decode cX4_init 107 = .ok (.newarray .int, 2) := by decide +kernel
theorem dX4_init_109 : decode cX4_init 109 = .ok (.putfield 56, 3) := by decide +kernel
theorem dX4_init_112 : decode cX4_init 112 = .ok (.iconst 0, 1) := by decide +kernel
theorem dX4_init_113 : decode cX4_init 113 = .ok (.istore_n 1, 1) := by decide +kernel
theorem dX4_init_114 : decode cX4_init 114 = .ok (.iload_n 1, 1) := by decide +kernel
theorem dX4_init_115 : decode cX4_init 115 = .ok (.bipush 14, 2) := by decide +kernel
theorem dX4_init_117 : decode cX4_init 117 = .ok (.if_icmp .ge 26, 3) := by decide +kernel
theorem dX4_init_120 : decode cX4_init 120 = .ok (.aload_n 0, 1) := by decide +kernel
theorem dX4_init_121 : decode cX4_init 121 = .ok (.getfield 39, 3) := by decide +kernel
theorem dX4_init_124 : decode cX4_init 124 = .ok (.iload_n 1, 1) := by decide +kernel
theorem dX4_init_125 : decode cX4_init 125 = .ok (.new 27, 3) := by decide +kernel
theorem dX4_init_128 : decode cX4_init 128 = .ok (.dup, 1) := by decide +kernel
theorem dX4_init_129 : decode cX4_init 129 = .ok (.aload_n 0, 1) := by decide +kernel
theorem dX4_init_130 : decode cX4_init 130 = .ok (.getfield 23, 3) := by decide +kernel
theorem dX4_init_133 : decode cX4_init 133 = .ok (.invokespecial 29, 3) := by decide +kernel
theorem dX4_init_136 : decode cX4_init 136 = .ok (.aastore, 1) := by decide +kernel
theorem dX4_init_137 : decode cX4_init 137 = .ok (.iinc 1 1, 3) := by decide +kernel
theorem dX4_init_140 : decode cX4_init 140 = .ok (.goto (-26), 3) := by decide +kernel
theorem dX4_init_143 : decode cX4_init 143 = .ok (.iconst 0, 1) := by decide +kernel
theorem dX4_init_144 : decode cX4_init 144 = .ok (.istore_n 1, 1) := by decide +kernel
theorem dX4_init_145 : decode cX4_init 145 = .ok (.iload_n 1, 1) := by decide +kernel
theorem dX4_init_146 : decode cX4_init 146 = .ok (.iconst 2, 1) := by decide +kernel
theorem dX4_init_147 : decode cX4_init 147 = .ok (.if_icmp .ge 26, 3) := by decide +kernel
theorem dX4_init_150 : decode cX4_init 150 = .ok (.aload_n 0, 1) := by decide +kernel
theorem dX4_init_151 : decode cX4_init 151 = .ok (.getfield 43, 3) := by decide +kernel
theorem dX4_init_154 : decode cX4_init 154 = .ok (.iload_n 1, 1) := by decide +kernel
theorem dX4_init_155 : decode cX4_init 155 = .ok (.new 27, 3) := by decide +kernel
theorem dX4_init_158 : decode cX4_init 158 = .ok (.dup, 1) := by decide +kernel
theorem dX4_init_159 : decode cX4_init 159 = .ok (.aload_n 0, 1) := by decide +kernel
theorem dX4_init_160 : decode cX4_init 160 = .ok (.getfield 23, 3) := by decide +kernel
theorem dX4_init_163 : decode cX4_init 163 = .ok (.invokespecial 29, 3) := by decide +kernel
theorem dX4_init_166 : decode cX4_init 166 = .ok (.aastore, 1) := by decide +kernel
theorem dX4_init_167 : decode cX4_init 167 = .ok (.iinc 1 1, 3) := by decide +kernel
theorem dX4_init_170 : decode cX4_init 170 = .ok (.goto (-25), 3) := by decide +kernel
theorem dX4_init_173 : decode cX4_init 173 = .ok (.return_, 1) := by decide +kernel
theorem dX4_write_0 : decode cX4_write 0 = .ok (.iload_n 1, 1) := by decide +kernel
theorem dX4_write_1 : decode cX4_write 1 = .ok (.iconst 0, 1) := by decide +kernel
theorem dX4_write_2 : decode cX4_write 2 = .ok (.sipush 255, 3) := by decide +kernel
theorem dX4_write_5 : decode cX4_write 5 = .ok (.invokestatic 59, 3) := by decide +kernel
theorem dX4_write_8 : decode cX4_write 8 = .ok (.ifCond .ne 6, 3) := by decide +kernel
theorem dX4_write_11 : decode cX4_write 11 = .ok (.bipush (-2), 2) := by decide +kernel
theorem dX4_write_13 : decode cX4_write 13 = .ok (.ireturn, 1) := by decide +kernel
theorem dX4_write_14 : decode cX4_write 14 = .ok (.aload_n 0, 1) := by decide +kernel
theorem dX4_write_15 : decode cX4_write 15 = .ok (.getfield 63, 3) := by decide +kernel
theorem dX4_write_18 : decode cX4_write 18 = .ok (.bipush 90, 2) := by decide +kernel
theorem dX4_write_20 : decode cX4_write 20 = .ok (.if_icmp .lt 6, 3) := by decide +kernel
theorem dX4_write_23 : decode cX4_write 23 = .ok (.bipush (-4), 2) := by decide +kernel
theorem dX4_write_25 : decode cX4_write 25 = .ok (.ireturn, 1) := by decide +kernel
theorem dX4_write_26 : decode cX4_write 26 = .ok (.aload_n 0, 1) := by decide +kernel
theorem dX4_write_27 : decode cX4_write 27 = .ok (.getfield 9, 3) := by decide +kernel
theorem dX4_write_30 : decode cX4_write 30 = .ok (.aload_n 0, 1) := by decide +kernel
theorem dX4_write_31 : decode cX4_write 31 = .ok (.getfield 63, 3) := by decide +kernel
theorem dX4_write_34 : decode cX4_write 34 = .ok (.iload_n 1, 1) := by decide +kernel
theorem dX4_write_35 : decode cX4_write 35 = .ok (.iastore, 1) := by decide +kernel
theorem dX4_write_36 : decode cX4_write 36 = .ok (.aload_n 0, 1) := by decide +kernel
theorem dX4_write_37 : decode cX4_write 37 = .ok (.dup, 1) := by decide +kernel
theorem dX4_write_38 : decode cX4_write 38 = .ok (.getfield 63, 3) := by decide +kernel
theorem dX4_write_41 : decode cX4_write 41 = .ok (.iconst 1, 1) := by decide +kernel
theorem dX4_write_42 : decode cX4_write 42 = .ok (.iadd, 1) := by decide +kernel
theorem dX4_write_43 : decode cX4_write 43 = .ok (.putfield 63, 3) := by decide +kernel
theorem dX4_write_46 : decode cX4_write 46 = .ok (.aload_n 0, 1) := by decide +kernel
theorem dX4_write_47 : decode cX4_write 47 = .ok (.getfield 63, 3) := by decide +kernel
theorem dX4_write_50 : decode cX4_write 50 = .ok (.ireturn, 1) := by decide +kernel
theorem dX4_wipe_0 : decode cX4_wipe 0 = .ok (.aload_n 0, 1) := by decide +kernel
theorem dX4_wipe_1 : decode cX4_wipe 1 = .ok (.getfield 63, 3) := by decide +kernel
theorem dX4_wipe_4 : decode cX4_wipe 4 = .ok (.istore_n 1, 1) := by decide +kernel
theorem dX4_wipe_5 : decode cX4_wipe 5 = .ok (.aload_n 0, 1) := by decide +kernel
theorem dX4_wipe_6 : decode cX4_wipe 6 = .ok (.iconst 0, 1) := by decide +kernel
theorem dX4_wipe_7 : decode cX4_wipe 7 = .ok (.putfield 63, 3) := by decide +kernel
theorem dX4_wipe_10 : decode cX4_wipe 10 = .ok (.iload_n 1, 1) := by decide +kernel
theorem dX4_wipe_11 : decode cX4_wipe 11 = .ok (.ireturn, 1) := by decide +kernel
theorem dX4_fault_0 : decode cX4_fault 0 = .ok (.aload_n 0, 1) := by decide +kernel
theorem dX4_fault_1 : decode cX4_fault 1 = .ok (.invokevirtual 67, 3) := by decide +kernel
theorem dX4_fault_4 : decode cX4_fault 4 = .ok (.ireturn, 1) := by decide +kernel
theorem dX4_line_0 : decode cX4_line 0 = .ok (.aload_n 0, 1) := by decide +kernel
theorem dX4_line_1 : decode cX4_line 1 = .ok (.invokevirtual 67, 3) := by decide +kernel
theorem dX4_line_4 : decode cX4_line 4 = .ok (.bipush (-9), 2) := by decide +kernel
theorem dX4_line_6 : decode cX4_line 6 = .ok (.if_icmp .eq 6, 3) := by decide +kernel
theorem dX4_line_9 : decode cX4_line 9 = .ok (.bipush (-3), 2) := by decide +kernel
theorem dX4_line_11 : decode cX4_line 11 = .ok (.ireturn, 1) := by decide +kernel
theorem dX4_line_12 : decode cX4_line 12 = .ok (.aload_n 0, 1) := by decide +kernel
theorem dX4_line_13 : decode cX4_line 13 = .ok (.getfield 23, 3) := by decide +kernel
theorem dX4_line_16 : decode cX4_line 16 = .ok (.aload_n 0, 1) := by decide +kernel
theorem dX4_line_17 : decode cX4_line 17 = .ok (.getfield 16, 3) := by decide +kernel
theorem dX4_line_20 : decode cX4_line 20 = .ok (.getfield 71, 3) := by decide +kernel
theorem dX4_line_23 : decode cX4_line 23 = .ok (.invokevirtual 72, 3) := by decide +kernel
theorem dX4_line_26 : decode cX4_line 26 = .ok (.aload_n 0, 1) := by decide +kernel
theorem dX4_line_27 : decode cX4_line 27 = .ok (.getfield 32, 3) := by decide +kernel
theorem dX4_line_30 : decode cX4_line 30 = .ok (.aload_n 0, 1) := by decide +kernel
theorem dX4_line_31 : decode cX4_line 31 = .ok (.getfield 16, 3) := by decide +kernel
theorem dX4_line_34 : decode cX4_line 34 = .ok (.getfield 75, 3) := by decide +kernel
theorem dX4_line_37 : decode cX4_line 37 = .ok (.invokevirtual 78, 3) := by decide +kernel
theorem dX4_line_40 : decode cX4_line 40 = .ok (.aload_n 0, 1) := by decide +kernel
theorem dX4_line_41 : decode cX4_line 41 = .ok (.invokevirtual 81, 3) := by decide +kernel
theorem dX4_line_44 : decode cX4_line 44 = .ok (.iconst 0, 1) := by decide +kernel
theorem dX4_line_45 : decode cX4_line 45 = .ok (.istore_n 1, 1) := by decide +kernel
theorem dX4_line_46 : decode cX4_line 46 = .ok (.iload_n 1, 1) := by decide +kernel
theorem dX4_line_47 : decode cX4_line 47 = .ok (.iconst 2, 1) := by decide +kernel
theorem dX4_line_48 : decode cX4_line 48 = .ok (.if_icmp .ge 16, 3) := by decide +kernel
theorem dX4_line_51 : decode cX4_line 51 = .ok (.aload_n 0, 1) := by decide +kernel
theorem dX4_line_52 : decode cX4_line 52 = .ok (.getfield 46, 3) := by decide +kernel
theorem dX4_line_55 : decode cX4_line 55 = .ok (.iload_n 1, 1) := by decide +kernel
theorem dX4_line_56 : decode cX4_line 56 = .ok (.iconst 0, 1) := by decide +kernel
theorem dX4_line_57 : decode cX4_line 57 = .ok (.bastore, 1) := by decide +kernel
theorem dX4_line_58 : decode cX4_line 58 = .ok (.iinc 1 1, 3) := by decide +kernel
theorem dX4_line_61 : decode cX4_line 61 = .ok (.goto (-15), 3) := by decide +kernel
theorem dX4_line_64 : decode cX4_line 64 = .ok (.aload_n 0, 1) := by decide +kernel
theorem dX4_line_65 : decode cX4_line 65 = .ok (.getfield 23, 3) := by decide +kernel
theorem dX4_line_68 : decode cX4_line 68 = .ok (.getfield 84, 3) := by decide +kernel
theorem dX4_line_71 : decode cX4_line 71 = .ok (.ireturn, 1) := by decide +kernel
theorem dX4_about_0 : decode cX4_about 0 = .ok (.iload_n 1, 1) := by decide +kernel
theorem dX4_about_1 : decode cX4_about 1 = .ok (.tableswitch 154 0 20 #[99, 107, 115, 123, 131, 154, 154, 154, 154, 154, 154, 154, 154, 154, 154, 154, 154, 154, 139, 144, 149], 99) := by decide +kernel
theorem dX4_about_100 : decode cX4_about 100 = .ok (.aload_n 0, 1) := by decide +kernel
theorem dX4_about_101 : decode cX4_about 101 = .ok (.getfield 23, 3) := by decide +kernel
theorem dX4_about_104 : decode cX4_about 104 = .ok (.getfield 87, 3) := by decide +kernel
theorem dX4_about_107 : decode cX4_about 107 = .ok (.ireturn, 1) := by decide +kernel
theorem dX4_about_108 : decode cX4_about 108 = .ok (.aload_n 0, 1) := by decide +kernel
theorem dX4_about_109 : decode cX4_about 109 = .ok (.getfield 23, 3) := by decide +kernel
theorem dX4_about_112 : decode cX4_about 112 = .ok (.getfield 84, 3) := by decide +kernel
theorem dX4_about_115 : decode cX4_about 115 = .ok (.ireturn, 1) := by decide +kernel
theorem dX4_about_116 : decode cX4_about 116 = .ok (.aload_n 0, 1) := by decide +kernel
theorem dX4_about_117 : decode cX4_about 117 = .ok (.getfield 23, 3) := by decide +kernel
theorem dX4_about_120 : decode cX4_about 120 = .ok (.getfield 90, 3) := by decide +kernel
theorem dX4_about_123 : decode cX4_about 123 = .ok (.ireturn, 1) := by decide +kernel
theorem dX4_about_124 : decode cX4_about 124 = .ok (.aload_n 0, 1) := by decide +kernel
theorem dX4_about_125 : decode cX4_about 125 = .ok (.getfield 23, 3) := by decide +kernel
theorem dX4_about_128 : decode cX4_about 128 = .ok (.getfield 93, 3) := by decide +kernel
theorem dX4_about_131 : decode cX4_about 131 = .ok (.ireturn, 1) := by decide +kernel
theorem dX4_about_132 : decode cX4_about 132 = .ok (.aload_n 0, 1) := by decide +kernel
theorem dX4_about_133 : decode cX4_about 133 = .ok (.getfield 23, 3) := by decide +kernel
theorem dX4_about_136 : decode cX4_about 136 = .ok (.getfield 96, 3) := by decide +kernel
theorem dX4_about_139 : decode cX4_about 139 = .ok (.ireturn, 1) := by decide +kernel
theorem dX4_about_140 : decode cX4_about 140 = .ok (.aload_n 0, 1) := by decide +kernel
theorem dX4_about_141 : decode cX4_about 141 = .ok (.getfield 99, 3) := by decide +kernel
theorem dX4_about_144 : decode cX4_about 144 = .ok (.ireturn, 1) := by decide +kernel
theorem dX4_about_145 : decode cX4_about 145 = .ok (.aload_n 0, 1) := by decide +kernel
theorem dX4_about_146 : decode cX4_about 146 = .ok (.getfield 102, 3) := by decide +kernel
theorem dX4_about_149 : decode cX4_about 149 = .ok (.ireturn, 1) := by decide +kernel
theorem dX4_about_150 : decode cX4_about 150 = .ok (.aload_n 0, 1) := by decide +kernel
theorem dX4_about_151 : decode cX4_about 151 = .ok (.getfield 63, 3) := by decide +kernel
theorem dX4_about_154 : decode cX4_about 154 = .ok (.ireturn, 1) := by decide +kernel
theorem dX4_about_155 : decode cX4_about 155 = .ok (.aload_n 0, 1) := by decide +kernel
theorem dX4_about_156 : decode cX4_about 156 = .ok (.getfield 32, 3) := by decide +kernel
theorem dX4_about_159 : decode cX4_about 159 = .ok (.iload_n 1, 1) := by decide +kernel
theorem dX4_about_160 : decode cX4_about 160 = .ok (.invokevirtual 105, 3) := by decide +kernel
theorem dX4_about_163 : decode cX4_about 163 = .ok (.ireturn, 1) := by decide +kernel
theorem dX4_place_0 : decode cX4_place 0 = .ok (.iload_n 1, 1) := by decide +kernel
theorem dX4_place_1 : decode cX4_place 1 = .ok (.iconst 0, 1) := by decide +kernel
theorem dX4_place_2 : decode cX4_place 2 = .ok (.iconst 4, 1) := by decide +kernel
theorem dX4_place_3 : decode cX4_place 3 = .ok (.invokestatic 59, 3) := by decide +kernel
theorem dX4_place_6 : decode cX4_place 6 = .ok (.ifCond .eq 15, 3) := by decide +kernel
theorem dX4_place_9 : decode cX4_place 9 = .ok (.aload_n 0, 1) := by decide +kernel
theorem dX4_place_10 : decode cX4_place 10 = .ok (.getfield 23, 3) := by decide +kernel
theorem dX4_place_13 : decode cX4_place 13 = .ok (.getfield 109, 3) := by decide +kernel
theorem dX4_place_16 : decode cX4_place 16 = .ok (.iload_n 1, 1) := by decide +kernel
theorem dX4_place_17 : decode cX4_place 17 = .ok (.iaload, 1) := by decide +kernel
theorem dX4_place_18 : decode cX4_place 18 = .ok (.goto 5, 3) := by decide +kernel
theorem dX4_place_21 : decode cX4_place 21 = .ok (.bipush (-2), 2) := by decide +kernel
theorem dX4_place_23 : decode cX4_place 23 = .ok (.ireturn, 1) := by decide +kernel
theorem dX4_cell_0 : decode cX4_cell 0 = .ok (.aload_n 0, 1) := by decide +kernel
theorem dX4_cell_1 : decode cX4_cell 1 = .ok (.getfield 23, 3) := by decide +kernel
theorem dX4_cell_4 : decode cX4_cell 4 = .ok (.iload_n 1, 1) := by decide +kernel
theorem dX4_cell_5 : decode cX4_cell 5 = .ok (.invokevirtual 112, 3) := by decide +kernel
theorem dX4_cell_8 : decode cX4_cell 8 = .ok (.ifCond .ne 5, 3) := by decide +kernel
theorem dX4_cell_11 : decode cX4_cell 11 = .ok (.iconst (-1), 1) := by decide +kernel
theorem dX4_cell_12 : decode cX4_cell 12 = .ok (.ireturn, 1) := by decide +kernel
theorem dX4_cell_13 : decode cX4_cell 13 = .ok (.aload_n 0, 1) := by decide +kernel
theorem dX4_cell_14 : decode cX4_cell 14 = .ok (.getfield 32, 3) := by decide +kernel
theorem dX4_cell_17 : decode cX4_cell 17 = .ok (.getfield 116, 3) := by decide +kernel
theorem dX4_cell_20 : decode cX4_cell 20 = .ok (.iload_n 1, 1) := by decide +kernel
theorem dX4_cell_21 : decode cX4_cell 21 = .ok (.iaload, 1) := by decide +kernel
theorem dX4_cell_22 : decode cX4_cell 22 = .ok (.istore_n 3, 1) := by decide +kernel
theorem dX4_cell_23 : decode cX4_cell 23 = .ok (.iload_n 2, 1) := by decide +kernel
theorem dX4_cell_24 : decode cX4_cell 24 = .ok (.tableswitch 135 0 7 #[48, 58, 71, 85, 90, 101, 112, 123], 48) := by decide +kernel
theorem dX4_cell_72 : decode cX4_cell 72 = .ok (.aload_n 0, 1) := by decide +kernel
theorem dX4_cell_73 : decode cX4_cell 73 = .ok (.getfield 32, 3) := by decide +kernel
theorem dX4_cell_76 : decode cX4_cell 76 = .ok (.getfield 119, 3) := by decide +kernel
theorem dX4_cell_79 : decode cX4_cell 79 = .ok (.iload_n 1, 1) := by decide +kernel
theorem dX4_cell_80 : decode cX4_cell 80 = .ok (.iaload, 1) := by decide +kernel
theorem dX4_cell_81 : decode cX4_cell 81 = .ok (.ireturn, 1) := by decide +kernel
theorem dX4_cell_82 : decode cX4_cell 82 = .ok (.iload_n 3, 1) := by decide +kernel
theorem dX4_cell_83 : decode cX4_cell 83 = .ok (.ifCond .eq 7, 3) := by decide +kernel
theorem dX4_cell_86 : decode cX4_cell 86 = .ok (.iconst 1, 1) := by decide +kernel
theorem dX4_cell_87 : decode cX4_cell 87 = .ok (.goto 4, 3) := by decide +kernel
theorem dX4_cell_90 : decode cX4_cell 90 = .ok (.iconst 0, 1) := by decide +kernel
theorem dX4_cell_91 : decode cX4_cell 91 = .ok (.invokestatic 122, 3) := by decide +kernel
theorem dX4_cell_94 : decode cX4_cell 94 = .ok (.ireturn, 1) := by decide +kernel
theorem dX4_cell_95 : decode cX4_cell 95 = .ok (.iload_n 3, 1) := by decide +kernel
theorem dX4_cell_96 : decode cX4_cell 96 = .ok (.ifCond .ne 8, 3) := by decide +kernel
theorem dX4_cell_99 : decode cX4_cell 99 = .ok (.bipush (-9), 2) := by decide +kernel
theorem dX4_cell_101 : decode cX4_cell 101 = .ok (.goto 7, 3) := by decide +kernel
theorem dX4_cell_104 : decode cX4_cell 104 = .ok (.iload_n 3, 1) := by decide +kernel
theorem dX4_cell_105 : decode cX4_cell 105 = .ok (.invokestatic 126, 3) := by decide +kernel
theorem dX4_cell_108 : decode cX4_cell 108 = .ok (.ireturn, 1) := by decide +kernel
theorem dX4_cell_109 : decode cX4_cell 109 = .ok (.iload_n 3, 1) := by decide +kernel
theorem dX4_cell_110 : decode cX4_cell 110 = .ok (.invokestatic 131, 3) := by decide +kernel
theorem dX4_cell_113 : decode cX4_cell 113 = .ok (.ireturn, 1) := by decide +kernel
theorem dX4_cell_114 : decode cX4_cell 114 = .ok (.iload_n 3, 1) := by decide +kernel
theorem dX4_cell_115 : decode cX4_cell 115 = .ok (.sipush 1024, 3) := by decide +kernel
theorem dX4_cell_118 : decode cX4_cell 118 = .ok (.invokestatic 134, 3) := by decide +kernel
theorem dX4_cell_121 : decode cX4_cell 121 = .ok (.invokestatic 122, 3) := by decide +kernel
theorem dX4_cell_124 : decode cX4_cell 124 = .ok (.ireturn, 1) := by decide +kernel
theorem dX4_cell_125 : decode cX4_cell 125 = .ok (.iload_n 3, 1) := by decide +kernel
theorem dX4_cell_126 : decode cX4_cell 126 = .ok (.sipush 2048, 3) := by decide +kernel
theorem dX4_cell_129 : decode cX4_cell 129 = .ok (.invokestatic 134, 3) := by decide +kernel
theorem dX4_cell_132 : decode cX4_cell 132 = .ok (.invokestatic 122, 3) := by decide +kernel
theorem dX4_cell_135 : decode cX4_cell 135 = .ok (.ireturn, 1) := by decide +kernel
theorem dX4_cell_136 : decode cX4_cell 136 = .ok (.iload_n 3, 1) := by decide +kernel
theorem dX4_cell_137 : decode cX4_cell 137 = .ok (.sipush 4096, 3) := by decide +kernel
theorem dX4_cell_140 : decode cX4_cell 140 = .ok (.invokestatic 134, 3) := by decide +kernel
theorem dX4_cell_143 : decode cX4_cell 143 = .ok (.invokestatic 122, 3) := by decide +kernel
theorem dX4_cell_146 : decode cX4_cell 146 = .ok (.ireturn, 1) := by decide +kernel
theorem dX4_cell_147 : decode cX4_cell 147 = .ok (.aload_n 0, 1) := by decide +kernel
theorem dX4_cell_148 : decode cX4_cell 148 = .ok (.getfield 23, 3) := by decide +kernel
theorem dX4_cell_151 : decode cX4_cell 151 = .ok (.iload_n 3, 1) := by decide +kernel
theorem dX4_cell_152 : decode cX4_cell 152 = .ok (.invokevirtual 138, 3) := by decide +kernel
theorem dX4_cell_155 : decode cX4_cell 155 = .ok (.invokestatic 122, 3) := by decide +kernel
theorem dX4_cell_158 : decode cX4_cell 158 = .ok (.ireturn, 1) := by decide +kernel
theorem dX4_cell_159 : decode cX4_cell 159 = .ok (.bipush (-2), 2) := by decide +kernel
theorem dX4_cell_161 : decode cX4_cell 161 = .ok (.ireturn, 1) := by decide +kernel
theorem dX4_valve_0 : decode cX4_valve 0 = .ok (.aload_n 0, 1) := by decide +kernel
theorem dX4_valve_1 : decode cX4_valve 1 = .ok (.getfield 23, 3) := by decide +kernel
theorem dX4_valve_4 : decode cX4_valve 4 = .ok (.iload_n 1, 1) := by decide +kernel
theorem dX4_valve_5 : decode cX4_valve 5 = .ok (.invokevirtual 141, 3) := by decide +kernel
theorem dX4_valve_8 : decode cX4_valve 8 = .ok (.ifCond .ne 5, 3) := by decide +kernel
theorem dX4_valve_11 : decode cX4_valve 11 = .ok (.iconst (-1), 1) := by decide +kernel
theorem dX4_valve_12 : decode cX4_valve 12 = .ok (.ireturn, 1) := by decide +kernel
theorem dX4_valve_13 : decode cX4_valve 13 = .ok (.iload_n 2, 1) := by decide +kernel
theorem dX4_valve_14 : decode cX4_valve 14 = .ok (.lookupswitch 48 #[(0, 26), (1, 36)], 26) := by decide +kernel
theorem dX4_valve_40 : decode cX4_valve 40 = .ok (.aload_n 0, 1) := by decide +kernel
theorem dX4_valve_41 : decode cX4_valve 41 = .ok (.getfield 32, 3) := by decide +kernel
theorem dX4_valve_44 : decode cX4_valve 44 = .ok (.getfield 144, 3) := by decide +kernel
theorem dX4_valve_47 : decode cX4_valve 47 = .ok (.iload_n 1, 1) := by decide +kernel
theorem dX4_valve_48 : decode cX4_valve 48 = .ok (.iaload, 1) := by decide +kernel
theorem dX4_valve_49 : decode cX4_valve 49 = .ok (.ireturn, 1) := by decide +kernel
theorem dX4_valve_50 : decode cX4_valve 50 = .ok (.aload_n 0, 1) := by decide +kernel
theorem dX4_valve_51 : decode cX4_valve 51 = .ok (.getfield 23, 3) := by decide +kernel
theorem dX4_valve_54 : decode cX4_valve 54 = .ok (.getfield 147, 3) := by decide +kernel
theorem dX4_valve_57 : decode cX4_valve 57 = .ok (.iload_n 1, 1) := by decide +kernel
theorem dX4_valve_58 : decode cX4_valve 58 = .ok (.iaload, 1) := by decide +kernel
theorem dX4_valve_59 : decode cX4_valve 59 = .ok (.iconst 4, 1) := by decide +kernel
theorem dX4_valve_60 : decode cX4_valve 60 = .ok (.iadd, 1) := by decide +kernel
theorem dX4_valve_61 : decode cX4_valve 61 = .ok (.ireturn, 1) := by decide +kernel
theorem dX4_valve_62 : decode cX4_valve 62 = .ok (.bipush (-2), 2) := by decide +kernel
theorem dX4_valve_64 : decode cX4_valve 64 = .ok (.ireturn, 1) := by decide +kernel
theorem dX4_queue_0 : decode cX4_queue 0 = .ok (.iload_n 1, 1) := by decide +kernel
theorem dX4_queue_1 : decode cX4_queue 1 = .ok (.iconst 0, 1) := by decide +kernel
theorem dX4_queue_2 : decode cX4_queue 2 = .ok (.bipush 23, 2) := by decide +kernel
theorem dX4_queue_4 : decode cX4_queue 4 = .ok (.invokestatic 59, 3) := by decide +kernel
theorem dX4_queue_7 : decode cX4_queue 7 = .ok (.ifCond .ne 6, 3) := by decide +kernel
theorem dX4_queue_10 : decode cX4_queue 10 = .ok (.bipush (-2), 2) := by decide +kernel
theorem dX4_queue_12 : decode cX4_queue 12 = .ok (.ireturn, 1) := by decide +kernel
theorem dX4_queue_13 : decode cX4_queue 13 = .ok (.iload_n 1, 1) := by decide +kernel
theorem dX4_queue_14 : decode cX4_queue 14 = .ok (.aload_n 0, 1) := by decide +kernel
theorem dX4_queue_15 : decode cX4_queue 15 = .ok (.getfield 32, 3) := by decide +kernel
theorem dX4_queue_18 : decode cX4_queue 18 = .ok (.getfield 150, 3) := by decide +kernel
theorem dX4_queue_21 : decode cX4_queue 21 = .ok (.if_icmp .ge 15, 3) := by decide +kernel
theorem dX4_queue_24 : decode cX4_queue 24 = .ok (.aload_n 0, 1) := by decide +kernel
theorem dX4_queue_25 : decode cX4_queue 25 = .ok (.getfield 32, 3) := by decide +kernel
theorem dX4_queue_28 : decode cX4_queue 28 = .ok (.getfield 153, 3) := by decide +kernel
theorem dX4_queue_31 : decode cX4_queue 31 = .ok (.iload_n 1, 1) := by decide +kernel
theorem dX4_queue_32 : decode cX4_queue 32 = .ok (.iaload, 1) := by decide +kernel
theorem dX4_queue_33 : decode cX4_queue 33 = .ok (.goto 5, 3) := by decide +kernel
theorem dX4_queue_36 : decode cX4_queue 36 = .ok (.bipush (-9), 2) := by decide +kernel
theorem dX4_queue_38 : decode cX4_queue 38 = .ok (.ireturn, 1) := by decide +kernel
theorem dX4_step_0 : decode cX4_step 0 = .ok (.iload_n 1, 1) := by decide +kernel
theorem dX4_step_1 : decode cX4_step 1 = .ok (.iconst 1, 1) := by decide +kernel
theorem dX4_step_2 : decode cX4_step 2 = .ok (.bipush 99, 2) := by decide +kernel
theorem dX4_step_4 : decode cX4_step 4 = .ok (.invokestatic 59, 3) := by decide +kernel
theorem dX4_step_7 : decode cX4_step 7 = .ok (.ifCond .ne 6, 3) := by decide +kernel
theorem dX4_step_10 : decode cX4_step 10 = .ok (.bipush (-2), 2) := by decide +kernel
theorem dX4_step_12 : decode cX4_step 12 = .ok (.ireturn, 1) := by decide +kernel
theorem dX4_step_13 : decode cX4_step 13 = .ok (.aload_n 0, 1) := by decide +kernel
theorem dX4_step_14 : decode cX4_step 14 = .ok (.getfield 32, 3) := by decide +kernel
theorem dX4_step_17 : decode cX4_step 17 = .ok (.getfield 156, 3) := by decide +kernel
theorem dX4_step_20 : decode cX4_step 20 = .ok (.ifCond .eq 6, 3) := by decide +kernel
theorem dX4_step_23 : decode cX4_step 23 = .ok (.bipush (-3), 2) := by decide +kernel
theorem dX4_step_25 : decode cX4_step 25 = .ok (.ireturn, 1) := by decide +kernel
theorem dX4_step_26 : decode cX4_step 26 = .ok (.aload_n 0, 1) := by decide +kernel
theorem dX4_step_27 : decode cX4_step 27 = .ok (.invokevirtual 160, 3) := by decide +kernel
theorem dX4_step_30 : decode cX4_step 30 = .ok (.aload_n 0, 1) := by decide +kernel
theorem dX4_step_31 : decode cX4_step 31 = .ok (.getfield 32, 3) := by decide +kernel
theorem dX4_step_34 : decode cX4_step 34 = .ok (.iload_n 1, 1) := by decide +kernel
theorem dX4_step_35 : decode cX4_step 35 = .ok (.invokevirtual 163, 3) := by decide +kernel
theorem dX4_step_38 : decode cX4_step 38 = .ok (.ireturn, 1) := by decide +kernel
theorem dX4_slip_0 : decode cX4_slip 0 = .ok (.aload_n 0, 1) := by decide +kernel
theorem dX4_slip_1 : decode cX4_slip 1 = .ok (.invokevirtual 160, 3) := by decide +kernel
theorem dX4_slip_4 : decode cX4_slip 4 = .ok (.aload_n 0, 1) := by decide +kernel
theorem dX4_slip_5 : decode cX4_slip 5 = .ok (.getfield 32, 3) := by decide +kernel
theorem dX4_slip_8 : decode cX4_slip 8 = .ok (.invokevirtual 166, 3) := by decide +kernel
theorem dX4_slip_11 : decode cX4_slip 11 = .ok (.aload_n 0, 1) := by decide +kernel
theorem dX4_slip_12 : decode cX4_slip 12 = .ok (.getfield 32, 3) := by decide +kernel
theorem dX4_slip_15 : decode cX4_slip 15 = .ok (.invokevirtual 169, 3) := by decide +kernel
theorem dX4_slip_18 : decode cX4_slip 18 = .ok (.ireturn, 1) := by decide +kernel
theorem dX4_jam_0 : decode cX4_jam 0 = .ok (.aload_n 0, 1) := by decide +kernel
theorem dX4_jam_1 : decode cX4_jam 1 = .ok (.invokevirtual 160, 3) := by decide +kernel
theorem dX4_jam_4 : decode cX4_jam 4 = .ok (.aload_n 0, 1) := by decide +kernel
theorem dX4_jam_5 : decode cX4_jam 5 = .ok (.getfield 32, 3) := by decide +kernel
theorem dX4_jam_8 : decode cX4_jam 8 = .ok (.aload_n 0, 1) := by decide +kernel
theorem dX4_jam_9 : decode cX4_jam 9 = .ok (.getfield 32, 3) := by decide +kernel
theorem dX4_jam_12 : decode cX4_jam 12 = .ok (.getfield 172, 3) := by decide +kernel
theorem dX4_jam_15 : decode cX4_jam 15 = .ok (.ifCond .ne 7, 3) := by decide +kernel
theorem dX4_jam_18 : decode cX4_jam 18 = .ok (.iconst 1, 1) := by decide +kernel
theorem dX4_jam_19 : decode cX4_jam 19 = .ok (.goto 4, 3) := by decide +kernel
theorem dX4_jam_22 : decode cX4_jam 22 = .ok (.iconst 0, 1) := by decide +kernel
theorem dX4_jam_23 : decode cX4_jam 23 = .ok (.putfield 172, 3) := by decide +kernel
theorem dX4_jam_26 : decode cX4_jam 26 = .ok (.aload_n 0, 1) := by decide +kernel
theorem dX4_jam_27 : decode cX4_jam 27 = .ok (.getfield 32, 3) := by decide +kernel
theorem dX4_jam_30 : decode cX4_jam 30 = .ok (.getfield 172, 3) := by decide +kernel
theorem dX4_jam_33 : decode cX4_jam 33 = .ok (.invokestatic 122, 3) := by decide +kernel
theorem dX4_jam_36 : decode cX4_jam 36 = .ok (.ireturn, 1) := by decide +kernel
theorem dX4_clear_0 : decode cX4_clear 0 = .ok (.aload_n 0, 1) := by decide +kernel
theorem dX4_clear_1 : decode cX4_clear 1 = .ok (.getfield 32, 3) := by decide +kernel
theorem dX4_clear_4 : decode cX4_clear 4 = .ok (.getfield 156, 3) := by decide +kernel
theorem dX4_clear_7 : decode cX4_clear 7 = .ok (.ifCond .ne 6, 3) := by decide +kernel
theorem dX4_clear_10 : decode cX4_clear 10 = .ok (.bipush (-3), 2) := by decide +kernel
theorem dX4_clear_12 : decode cX4_clear 12 = .ok (.ireturn, 1) := by decide +kernel
theorem dX4_clear_13 : decode cX4_clear 13 = .ok (.aload_n 0, 1) := by decide +kernel
theorem dX4_clear_14 : decode cX4_clear 14 = .ok (.invokevirtual 160, 3) := by decide +kernel
theorem dX4_clear_17 : decode cX4_clear 17 = .ok (.aload_n 0, 1) := by decide +kernel
theorem dX4_clear_18 : decode cX4_clear 18 = .ok (.getfield 32, 3) := by decide +kernel
theorem dX4_clear_21 : decode cX4_clear 21 = .ok (.invokevirtual 175, 3) := by decide +kernel
theorem dX4_clear_24 : decode cX4_clear 24 = .ok (.invokestatic 122, 3) := by decide +kernel
theorem dX4_clear_27 : decode cX4_clear 27 = .ok (.ireturn, 1) := by decide +kernel
theorem dX4_restart_0 : decode cX4_restart 0 = .ok (.aload_n 0, 1) := by decide +kernel
theorem dX4_restart_1 : decode cX4_restart 1 = .ok (.invokevirtual 160, 3) := by decide +kernel
theorem dX4_restart_4 : decode cX4_restart 4 = .ok (.aload_n 0, 1) := by decide +kernel
theorem dX4_restart_5 : decode cX4_restart 5 = .ok (.getfield 32, 3) := by decide +kernel
theorem dX4_restart_8 : decode cX4_restart 8 = .ok (.invokevirtual 179, 3) := by decide +kernel
theorem dX4_restart_11 : decode cX4_restart 11 = .ok (.aload_n 0, 1) := by decide +kernel
theorem dX4_restart_12 : decode cX4_restart 12 = .ok (.getfield 32, 3) := by decide +kernel
theorem dX4_restart_15 : decode cX4_restart 15 = .ok (.invokevirtual 169, 3) := by decide +kernel
theorem dX4_restart_18 : decode cX4_restart 18 = .ok (.ireturn, 1) := by decide +kernel
theorem dX4_lay_0 : decode cX4_lay 0 = .ok (.iload_n 2, 1) := by decide +kernel
theorem dX4_lay_1 : decode cX4_lay 1 = .ok (.iconst 1, 1) := by decide +kernel
theorem dX4_lay_2 : decode cX4_lay 2 = .ok (.bipush 9, 2) := by decide +kernel
theorem dX4_lay_4 : decode cX4_lay 4 = .ok (.invokestatic 59, 3) := by decide +kernel
theorem dX4_lay_7 : decode cX4_lay 7 = .ok (.ifCond .ne 6, 3) := by decide +kernel
theorem dX4_lay_10 : decode cX4_lay 10 = .ok (.bipush (-2), 2) := by decide +kernel
theorem dX4_lay_12 : decode cX4_lay 12 = .ok (.ireturn, 1) := by decide +kernel
theorem dX4_lay_13 : decode cX4_lay 13 = .ok (.aload_n 0, 1) := by decide +kernel
theorem dX4_lay_14 : decode cX4_lay 14 = .ok (.getfield 32, 3) := by decide +kernel
theorem dX4_lay_17 : decode cX4_lay 17 = .ok (.iload_n 1, 1) := by decide +kernel
theorem dX4_lay_18 : decode cX4_lay 18 = .ok (.invokevirtual 182, 3) := by decide +kernel
theorem dX4_lay_21 : decode cX4_lay 21 = .ok (.iload_n 2, 1) := by decide +kernel
theorem dX4_lay_22 : decode cX4_lay 22 = .ok (.iadd, 1) := by decide +kernel
theorem dX4_lay_23 : decode cX4_lay 23 = .ok (.bipush 99, 2) := by decide +kernel
theorem dX4_lay_25 : decode cX4_lay 25 = .ok (.if_icmp .le 6, 3) := by decide +kernel
theorem dX4_lay_28 : decode cX4_lay 28 = .ok (.bipush (-4), 2) := by decide +kernel
theorem dX4_lay_30 : decode cX4_lay 30 = .ok (.ireturn, 1) := by decide +kernel
theorem dX4_lay_31 : decode cX4_lay 31 = .ok (.aload_n 0, 1) := by decide +kernel
theorem dX4_lay_32 : decode cX4_lay 32 = .ok (.invokevirtual 160, 3) := by decide +kernel
theorem dX4_lay_35 : decode cX4_lay 35 = .ok (.aload_n 0, 1) := by decide +kernel
theorem dX4_lay_36 : decode cX4_lay 36 = .ok (.getfield 32, 3) := by decide +kernel
theorem dX4_lay_39 : decode cX4_lay 39 = .ok (.iload_n 1, 1) := by decide +kernel
theorem dX4_lay_40 : decode cX4_lay 40 = .ok (.iload_n 2, 1) := by decide +kernel
theorem dX4_lay_41 : decode cX4_lay 41 = .ok (.invokevirtual 185, 3) := by decide +kernel
theorem dX4_lay_44 : decode cX4_lay 44 = .ok (.aload_n 0, 1) := by decide +kernel
theorem dX4_lay_45 : decode cX4_lay 45 = .ok (.getfield 32, 3) := by decide +kernel
theorem dX4_lay_48 : decode cX4_lay 48 = .ok (.iload_n 1, 1) := by decide +kernel
theorem dX4_lay_49 : decode cX4_lay 49 = .ok (.invokevirtual 182, 3) := by decide +kernel
theorem dX4_lay_52 : decode cX4_lay 52 = .ok (.ireturn, 1) := by decide +kernel
theorem dX4_set_0 : decode cX4_set 0 = .ok (.aload_n 0, 1) := by decide +kernel
theorem dX4_set_1 : decode cX4_set 1 = .ok (.getfield 23, 3) := by decide +kernel
theorem dX4_set_4 : decode cX4_set 4 = .ok (.iload_n 1, 1) := by decide +kernel
theorem dX4_set_5 : decode cX4_set 5 = .ok (.invokevirtual 141, 3) := by decide +kernel
theorem dX4_set_8 : decode cX4_set 8 = .ok (.ifCond .ne 5, 3) := by decide +kernel
theorem dX4_set_11 : decode cX4_set 11 = .ok (.iconst (-1), 1) := by decide +kernel
theorem dX4_set_12 : decode cX4_set 12 = .ok (.ireturn, 1) := by decide +kernel
theorem dX4_set_13 : decode cX4_set 13 = .ok (.iload_n 2, 1) := by decide +kernel
theorem dX4_set_14 : decode cX4_set 14 = .ok (.iconst 0, 1) := by decide +kernel
theorem dX4_set_15 : decode cX4_set 15 = .ok (.bipush 99, 2) := by decide +kernel
theorem dX4_set_17 : decode cX4_set 17 = .ok (.invokestatic 59, 3) := by decide +kernel
theorem dX4_set_20 : decode cX4_set 20 = .ok (.ifCond .ne 6, 3) := by decide +kernel
theorem dX4_set_23 : decode cX4_set 23 = .ok (.bipush (-2), 2) := by decide +kernel
theorem dX4_set_25 : decode cX4_set 25 = .ok (.ireturn, 1) := by decide +kernel
theorem dX4_set_26 : decode cX4_set 26 = .ok (.aload_n 0, 1) := by decide +kernel
theorem dX4_set_27 : decode cX4_set 27 = .ok (.invokevirtual 160, 3) := by decide +kernel
theorem dX4_set_30 : decode cX4_set 30 = .ok (.aload_n 0, 1) := by decide +kernel
theorem dX4_set_31 : decode cX4_set 31 = .ok (.getfield 32, 3) := by decide +kernel
theorem dX4_set_34 : decode cX4_set 34 = .ok (.getfield 144, 3) := by decide +kernel
theorem dX4_set_37 : decode cX4_set 37 = .ok (.iload_n 1, 1) := by decide +kernel
theorem dX4_set_38 : decode cX4_set 38 = .ok (.iaload, 1) := by decide +kernel
theorem dX4_set_39 : decode cX4_set 39 = .ok (.istore_n 3, 1) := by decide +kernel
theorem dX4_set_40 : decode cX4_set 40 = .ok (.aload_n 0, 1) := by decide +kernel
theorem dX4_set_41 : decode cX4_set 41 = .ok (.getfield 32, 3) := by decide +kernel
theorem dX4_set_44 : decode cX4_set 44 = .ok (.getfield 144, 3) := by decide +kernel
theorem dX4_set_47 : decode cX4_set 47 = .ok (.iload_n 1, 1) := by decide +kernel
theorem dX4_set_48 : decode cX4_set 48 = .ok (.iload_n 2, 1) := by decide +kernel
theorem dX4_set_49 : decode cX4_set 49 = .ok (.iastore, 1) := by decide +kernel
theorem dX4_set_50 : decode cX4_set 50 = .ok (.iload_n 3, 1) := by decide +kernel
theorem dX4_set_51 : decode cX4_set 51 = .ok (.ireturn, 1) := by decide +kernel
theorem dX4_come_0 : decode cX4_come 0 = .ok (.iload_n 1, 1) := by decide +kernel
theorem dX4_come_1 : decode cX4_come 1 = .ok (.iconst 0, 1) := by decide +kernel
theorem dX4_come_2 : decode cX4_come 2 = .ok (.iconst 2, 1) := by decide +kernel
theorem dX4_come_3 : decode cX4_come 3 = .ok (.invokestatic 59, 3) := by decide +kernel
theorem dX4_come_6 : decode cX4_come 6 = .ok (.ifCond .ne 6, 3) := by decide +kernel
theorem dX4_come_9 : decode cX4_come 9 = .ok (.bipush (-2), 2) := by decide +kernel
theorem dX4_come_11 : decode cX4_come 11 = .ok (.ireturn, 1) := by decide +kernel
theorem dX4_come_12 : decode cX4_come 12 = .ok (.aload_n 0, 1) := by decide +kernel
theorem dX4_come_13 : decode cX4_come 13 = .ok (.getfield 32, 3) := by decide +kernel
theorem dX4_come_16 : decode cX4_come 16 = .ok (.getfield 150, 3) := by decide +kernel
theorem dX4_come_19 : decode cX4_come 19 = .ok (.bipush 24, 2) := by decide +kernel
theorem dX4_come_21 : decode cX4_come 21 = .ok (.if_icmp .lt 6, 3) := by decide +kernel
theorem dX4_come_24 : decode cX4_come 24 = .ok (.bipush (-4), 2) := by decide +kernel
theorem dX4_come_26 : decode cX4_come 26 = .ok (.ireturn, 1) := by decide +kernel
theorem dX4_come_27 : decode cX4_come 27 = .ok (.aload_n 0, 1) := by decide +kernel
theorem dX4_come_28 : decode cX4_come 28 = .ok (.invokevirtual 160, 3) := by decide +kernel
theorem dX4_come_31 : decode cX4_come 31 = .ok (.aload_n 0, 1) := by decide +kernel
theorem dX4_come_32 : decode cX4_come 32 = .ok (.getfield 32, 3) := by decide +kernel
theorem dX4_come_35 : decode cX4_come 35 = .ok (.iload_n 1, 1) := by decide +kernel
theorem dX4_come_36 : decode cX4_come 36 = .ok (.invokevirtual 189, 3) := by decide +kernel
theorem dX4_come_39 : decode cX4_come 39 = .ok (.aload_n 0, 1) := by decide +kernel
theorem dX4_come_40 : decode cX4_come 40 = .ok (.getfield 32, 3) := by decide +kernel
theorem dX4_come_43 : decode cX4_come 43 = .ok (.getfield 150, 3) := by decide +kernel
theorem dX4_come_46 : decode cX4_come 46 = .ok (.ireturn, 1) := by decide +kernel
theorem dX4_undo_0 : decode cX4_undo 0 = .ok (.aload_n 0, 1) := by decide +kernel
theorem dX4_undo_1 : decode cX4_undo 1 = .ok (.getfield 99, 3) := by decide +kernel
theorem dX4_undo_4 : decode cX4_undo 4 = .ok (.ifCond .ne 6, 3) := by decide +kernel
theorem dX4_undo_7 : decode cX4_undo 7 = .ok (.bipush (-3), 2) := by decide +kernel
theorem dX4_undo_9 : decode cX4_undo 9 = .ok (.ireturn, 1) := by decide +kernel
theorem dX4_undo_10 : decode cX4_undo 10 = .ok (.aload_n 0, 1) := by decide +kernel
theorem dX4_undo_11 : decode cX4_undo 11 = .ok (.aload_n 0, 1) := by decide +kernel
theorem dX4_undo_12 : decode cX4_undo 12 = .ok (.getfield 193, 3) := by decide +kernel
theorem dX4_undo_15 : decode cX4_undo 15 = .ok (.bipush 14, 2) := by decide +kernel
theorem dX4_undo_17 : decode cX4_undo 17 = .ok (.iadd, 1) := by decide +kernel
theorem dX4_undo_18 : decode cX4_undo 18 = .ok (.iconst 1, 1) := by decide +kernel
theorem dX4_undo_19 : decode cX4_undo 19 = .ok (.isub, 1) := by decide +kernel
theorem dX4_undo_20 : decode cX4_undo 20 = .ok (.bipush 14, 2) := by decide +kernel
theorem dX4_undo_22 : decode cX4_undo 22 = .ok (.irem, 1) := by decide +kernel
theorem dX4_undo_23 : decode cX4_undo 23 = .ok (.putfield 193, 3) := by decide +kernel
theorem dX4_undo_26 : decode cX4_undo 26 = .ok (.aload_n 0, 1) := by decide +kernel
theorem dX4_undo_27 : decode cX4_undo 27 = .ok (.dup, 1) := by decide +kernel
theorem dX4_undo_28 : decode cX4_undo 28 = .ok (.getfield 99, 3) := by decide +kernel
theorem dX4_undo_31 : decode cX4_undo 31 = .ok (.iconst 1, 1) := by decide +kernel
theorem dX4_undo_32 : decode cX4_undo 32 = .ok (.isub, 1) := by decide +kernel
theorem dX4_undo_33 : decode cX4_undo 33 = .ok (.putfield 99, 3) := by decide +kernel
theorem dX4_undo_36 : decode cX4_undo 36 = .ok (.aload_n 0, 1) := by decide +kernel
theorem dX4_undo_37 : decode cX4_undo 37 = .ok (.getfield 32, 3) := by decide +kernel
theorem dX4_undo_40 : decode cX4_undo 40 = .ok (.aload_n 0, 1) := by decide +kernel
theorem dX4_undo_41 : decode cX4_undo 41 = .ok (.getfield 39, 3) := by decide +kernel
theorem dX4_undo_44 : decode cX4_undo 44 = .ok (.aload_n 0, 1) := by decide +kernel
theorem dX4_undo_45 : decode cX4_undo 45 = .ok (.getfield 193, 3) := by decide +kernel
theorem dX4_undo_48 : decode cX4_undo 48 = .ok (.aaload, 1) := by decide +kernel
theorem dX4_undo_49 : decode cX4_undo 49 = .ok (.invokevirtual 78, 3) := by decide +kernel
theorem dX4_undo_52 : decode cX4_undo 52 = .ok (.aload_n 0, 1) := by decide +kernel
theorem dX4_undo_53 : decode cX4_undo 53 = .ok (.getfield 99, 3) := by decide +kernel
theorem dX4_undo_56 : decode cX4_undo 56 = .ok (.ireturn, 1) := by decide +kernel
theorem dX4_ahead_0 : decode cX4_ahead 0 = .ok (.iload_n 1, 1) := by decide +kernel
theorem dX4_ahead_1 : decode cX4_ahead 1 = .ok (.iconst 0, 1) := by decide +kernel
theorem dX4_ahead_2 : decode cX4_ahead 2 = .ok (.bipush 99, 2) := by decide +kernel
theorem dX4_ahead_4 : decode cX4_ahead 4 = .ok (.invokestatic 59, 3) := by decide +kernel
theorem dX4_ahead_7 : decode cX4_ahead 7 = .ok (.ifCond .eq 13, 3) := by decide +kernel
theorem dX4_ahead_10 : decode cX4_ahead 10 = .ok (.iload_n 2, 1) := by decide +kernel
theorem dX4_ahead_11 : decode cX4_ahead 11 = .ok (.iconst 5, 1) := by decide +kernel
theorem dX4_ahead_12 : decode cX4_ahead 12 = .ok (.bipush 17, 2) := by decide +kernel
theorem dX4_ahead_14 : decode cX4_ahead 14 = .ok (.invokestatic 59, 3) := by decide +kernel
theorem dX4_ahead_17 : decode cX4_ahead 17 = .ok (.ifCond .ne 6, 3) := by decide +kernel
theorem dX4_ahead_20 : decode cX4_ahead 20 = .ok (.bipush (-2), 2) := by decide +kernel
theorem dX4_ahead_22 : decode cX4_ahead 22 = .ok (.ireturn, 1) := by decide +kernel
theorem dX4_ahead_23 : decode cX4_ahead 23 = .ok (.aload_n 0, 1) := by decide +kernel
theorem dX4_ahead_24 : decode cX4_ahead 24 = .ok (.getfield 36, 3) := by decide +kernel
theorem dX4_ahead_27 : decode cX4_ahead 27 = .ok (.aload_n 0, 1) := by decide +kernel
theorem dX4_ahead_28 : decode cX4_ahead 28 = .ok (.getfield 32, 3) := by decide +kernel
theorem dX4_ahead_31 : decode cX4_ahead 31 = .ok (.invokevirtual 78, 3) := by decide +kernel
theorem dX4_ahead_34 : decode cX4_ahead 34 = .ok (.aload_n 0, 1) := by decide +kernel
theorem dX4_ahead_35 : decode cX4_ahead 35 = .ok (.getfield 36, 3) := by decide +kernel
theorem dX4_ahead_38 : decode cX4_ahead 38 = .ok (.iload_n 1, 1) := by decide +kernel
theorem dX4_ahead_39 : decode cX4_ahead 39 = .ok (.invokevirtual 163, 3) := by decide +kernel
theorem dX4_ahead_42 : decode cX4_ahead 42 = .ok (.pop, 1) := by decide +kernel
theorem dX4_ahead_43 : decode cX4_ahead 43 = .ok (.aload_n 0, 1) := by decide +kernel
theorem dX4_ahead_44 : decode cX4_ahead 44 = .ok (.getfield 36, 3) := by decide +kernel
theorem dX4_ahead_47 : decode cX4_ahead 47 = .ok (.iload_n 2, 1) := by decide +kernel
theorem dX4_ahead_48 : decode cX4_ahead 48 = .ok (.invokevirtual 105, 3) := by decide +kernel
theorem dX4_ahead_51 : decode cX4_ahead 51 = .ok (.ireturn, 1) := by decide +kernel
theorem dX4_goes_0 : decode cX4_goes 0 = .ok (.aload_n 0, 1) := by decide +kernel
theorem dX4_goes_1 : decode cX4_goes 1 = .ok (.getfield 23, 3) := by decide +kernel
theorem dX4_goes_4 : decode cX4_goes 4 = .ok (.iload_n 1, 1) := by decide +kernel
theorem dX4_goes_5 : decode cX4_goes 5 = .ok (.invokevirtual 112, 3) := by decide +kernel
theorem dX4_goes_8 : decode cX4_goes 8 = .ok (.ifCond .ne 5, 3) := by decide +kernel
theorem dX4_goes_11 : decode cX4_goes 11 = .ok (.iconst (-1), 1) := by decide +kernel
theorem dX4_goes_12 : decode cX4_goes 12 = .ok (.ireturn, 1) := by decide +kernel
theorem dX4_goes_13 : decode cX4_goes 13 = .ok (.iload_n 2, 1) := by decide +kernel
theorem dX4_goes_14 : decode cX4_goes 14 = .ok (.iconst 0, 1) := by decide +kernel
theorem dX4_goes_15 : decode cX4_goes 15 = .ok (.iconst 1, 1) := by decide +kernel
theorem dX4_goes_16 : decode cX4_goes 16 = .ok (.invokestatic 59, 3) := by decide +kernel
theorem dX4_goes_19 : decode cX4_goes 19 = .ok (.ifCond .ne 6, 3) := by decide +kernel
theorem dX4_goes_22 : decode cX4_goes 22 = .ok (.bipush (-2), 2) := by decide +kernel
theorem dX4_goes_24 : decode cX4_goes 24 = .ok (.ireturn, 1) := by decide +kernel
theorem dX4_goes_25 : decode cX4_goes 25 = .ok (.aload_n 0, 1) := by decide +kernel
theorem dX4_goes_26 : decode cX4_goes 26 = .ok (.getfield 32, 3) := by decide +kernel
theorem dX4_goes_29 : decode cX4_goes 29 = .ok (.getfield 116, 3) := by decide +kernel
theorem dX4_goes_32 : decode cX4_goes 32 = .ok (.iload_n 1, 1) := by decide +kernel
theorem dX4_goes_33 : decode cX4_goes 33 = .ok (.iaload, 1) := by decide +kernel
theorem dX4_goes_34 : decode cX4_goes 34 = .ok (.ifCond .ne 6, 3) := by decide +kernel
theorem dX4_goes_37 : decode cX4_goes 37 = .ok (.bipush (-3), 2) := by decide +kernel
theorem dX4_goes_39 : decode cX4_goes 39 = .ok (.ireturn, 1) := by decide +kernel
theorem dX4_goes_40 : decode cX4_goes 40 = .ok (.aload_n 0, 1) := by decide +kernel
theorem dX4_goes_41 : decode cX4_goes 41 = .ok (.getfield 36, 3) := by decide +kernel
theorem dX4_goes_44 : decode cX4_goes 44 = .ok (.aload_n 0, 1) := by decide +kernel
theorem dX4_goes_45 : decode cX4_goes 45 = .ok (.getfield 32, 3) := by decide +kernel
theorem dX4_goes_48 : decode cX4_goes 48 = .ok (.invokevirtual 78, 3) := by decide +kernel
theorem dX4_goes_51 : decode cX4_goes 51 = .ok (.iconst 0, 1) := by decide +kernel
theorem dX4_goes_52 : decode cX4_goes 52 = .ok (.istore_n 3, 1) := by decide +kernel
theorem dX4_goes_53 : decode cX4_goes 53 = .ok (.iload_n 3, 1) := by decide +kernel
theorem dX4_goes_54 : decode cX4_goes 54 = .ok (.bipush 60, 2) := by decide +kernel
theorem dX4_goes_56 : decode cX4_goes 56 = .ok (.if_icmp .ge 48, 3) := by decide +kernel
theorem dX4_goes_59 : decode cX4_goes 59 = .ok (.aload_n 0, 1) := by decide +kernel
theorem dX4_goes_60 : decode cX4_goes 60 = .ok (.getfield 36, 3) := by decide +kernel
theorem dX4_goes_63 : decode cX4_goes 63 = .ok (.getfield 156, 3) := by decide +kernel
theorem dX4_goes_66 : decode cX4_goes 66 = .ok (.ifCond .ne 38, 3) := by decide +kernel
theorem dX4_goes_69 : decode cX4_goes 69 = .ok (.aload_n 0, 1) := by decide +kernel
theorem dX4_goes_70 : decode cX4_goes 70 = .ok (.iload_n 1, 1) := by decide +kernel
theorem dX4_goes_71 : decode cX4_goes 71 = .ok (.iload_n 3, 1) := by decide +kernel
theorem dX4_goes_72 : decode cX4_goes 72 = .ok (.iadd, 1) := by decide +kernel
theorem dX4_goes_73 : decode cX4_goes 73 = .ok (.invokevirtual 196, 3) := by decide +kernel
theorem dX4_goes_76 : decode cX4_goes 76 = .ok (.istore 4, 2) := by decide +kernel
theorem dX4_goes_78 : decode cX4_goes 78 = .ok (.iload 4, 2) := by decide +kernel
theorem dX4_goes_80 : decode cX4_goes 80 = .ok (.bipush (-9), 2) := by decide +kernel
theorem dX4_goes_82 : decode cX4_goes 82 = .ok (.if_icmp .eq 16, 3) := by decide +kernel
theorem dX4_goes_85 : decode cX4_goes 85 = .ok (.iload_n 2, 1) := by decide +kernel
theorem dX4_goes_86 : decode cX4_goes 86 = .ok (.ifCond .ne 9, 3) := by decide +kernel
theorem dX4_goes_89 : decode cX4_goes 89 = .ok (.iload_n 3, 1) := by decide +kernel
theorem dX4_goes_90 : decode cX4_goes 90 = .ok (.iconst 1, 1) := by decide +kernel
theorem dX4_goes_91 : decode cX4_goes 91 = .ok (.iadd, 1) := by decide +kernel
theorem dX4_goes_92 : decode cX4_goes 92 = .ok (.goto 5, 3) := by decide +kernel
theorem dX4_goes_95 : decode cX4_goes 95 = .ok (.iload 4, 2) := by decide +kernel
theorem dX4_goes_97 : decode cX4_goes 97 = .ok (.ireturn, 1) := by decide +kernel
theorem dX4_goes_98 : decode cX4_goes 98 = .ok (.iinc 3 1, 3) := by decide +kernel
theorem dX4_goes_101 : decode cX4_goes 101 = .ok (.goto (-48), 3) := by decide +kernel
theorem dX4_goes_104 : decode cX4_goes 104 = .ok (.bipush (-9), 2) := by decide +kernel
theorem dX4_goes_106 : decode cX4_goes 106 = .ok (.ireturn, 1) := by decide +kernel
theorem dX4_best_0 : decode cX4_best 0 = .ok (.aload_n 0, 1) := by decide +kernel
theorem dX4_best_1 : decode cX4_best 1 = .ok (.getfield 23, 3) := by decide +kernel
theorem dX4_best_4 : decode cX4_best 4 = .ok (.iload_n 1, 1) := by decide +kernel
theorem dX4_best_5 : decode cX4_best 5 = .ok (.invokevirtual 141, 3) := by decide +kernel
theorem dX4_best_8 : decode cX4_best 8 = .ok (.ifCond .ne 5, 3) := by decide +kernel
theorem dX4_best_11 : decode cX4_best 11 = .ok (.iconst (-1), 1) := by decide +kernel
theorem dX4_best_12 : decode cX4_best 12 = .ok (.ireturn, 1) := by decide +kernel
theorem dX4_best_13 : decode cX4_best 13 = .ok (.iconst 0, 1) := by decide +kernel
theorem dX4_best_14 : decode cX4_best 14 = .ok (.istore_n 2, 1) := by decide +kernel
theorem dX4_best_15 : decode cX4_best 15 = .ok (.iconst (-1), 1) := by decide +kernel
theorem dX4_best_16 : decode cX4_best 16 = .ok (.istore_n 3, 1) := by decide +kernel
theorem dX4_best_17 : decode cX4_best 17 = .ok (.iconst 0, 1) := by decide +kernel
theorem dX4_best_18 : decode cX4_best 18 = .ok (.istore 4, 2) := by decide +kernel
theorem dX4_best_20 : decode cX4_best 20 = .ok (.iload 4, 2) := by decide +kernel
theorem dX4_best_22 : decode cX4_best 22 = .ok (.bipush 99, 2) := by decide +kernel
theorem dX4_best_24 : decode cX4_best 24 = .ok (.if_icmp .gt 63, 3) := by decide +kernel
theorem dX4_best_27 : decode cX4_best 27 = .ok (.aload_n 0, 1) := by decide +kernel
theorem dX4_best_28 : decode cX4_best 28 = .ok (.getfield 36, 3) := by decide +kernel
theorem dX4_best_31 : decode cX4_best 31 = .ok (.aload_n 0, 1) := by decide +kernel
theorem dX4_best_32 : decode cX4_best 32 = .ok (.getfield 32, 3) := by decide +kernel
theorem dX4_best_35 : decode cX4_best 35 = .ok (.invokevirtual 78, 3) := by decide +kernel
theorem dX4_best_38 : decode cX4_best 38 = .ok (.aload_n 0, 1) := by decide +kernel
theorem dX4_best_39 : decode cX4_best 39 = .ok (.getfield 36, 3) := by decide +kernel
theorem dX4_best_42 : decode cX4_best 42 = .ok (.getfield 144, 3) := by decide +kernel
theorem dX4_best_45 : decode cX4_best 45 = .ok (.iload_n 1, 1) := by decide +kernel
theorem dX4_best_46 : decode cX4_best 46 = .ok (.iload 4, 2) := by decide +kernel
theorem dX4_best_48 : decode cX4_best 48 = .ok (.iastore, 1) := by decide +kernel
theorem dX4_best_49 : decode cX4_best 49 = .ok (.aload_n 0, 1) := by decide +kernel
theorem dX4_best_50 : decode cX4_best 50 = .ok (.getfield 36, 3) := by decide +kernel
theorem dX4_best_53 : decode cX4_best 53 = .ok (.bipush 30, 2) := by decide +kernel
theorem dX4_best_55 : decode cX4_best 55 = .ok (.invokevirtual 163, 3) := by decide +kernel
theorem dX4_best_58 : decode cX4_best 58 = .ok (.pop, 1) := by decide +kernel
theorem dX4_best_59 : decode cX4_best 59 = .ok (.aload_n 0, 1) := by decide +kernel
theorem dX4_best_60 : decode cX4_best 60 = .ok (.getfield 36, 3) := by decide +kernel
theorem dX4_best_63 : decode cX4_best 63 = .ok (.getfield 199, 3) := by decide +kernel
theorem dX4_best_66 : decode cX4_best 66 = .ok (.iload_n 3, 1) := by decide +kernel
theorem dX4_best_67 : decode cX4_best 67 = .ok (.if_icmp .le 14, 3) := by decide +kernel
theorem dX4_best_70 : decode cX4_best 70 = .ok (.aload_n 0, 1) := by decide +kernel
theorem dX4_best_71 : decode cX4_best 71 = .ok (.getfield 36, 3) := by decide +kernel
theorem dX4_best_74 : decode cX4_best 74 = .ok (.getfield 199, 3) := by decide +kernel
theorem dX4_best_77 : decode cX4_best 77 = .ok (.istore_n 3, 1) := by decide +kernel
theorem dX4_best_78 : decode cX4_best 78 = .ok (.iload 4, 2) := by decide +kernel
theorem dX4_best_80 : decode cX4_best 80 = .ok (.istore_n 2, 1) := by decide +kernel
theorem dX4_best_81 : decode cX4_best 81 = .ok (.iinc 4 1, 3) := by decide +kernel
theorem dX4_best_84 : decode cX4_best 84 = .ok (.goto (-64), 3) := by decide +kernel
theorem dX4_best_87 : decode cX4_best 87 = .ok (.iload_n 2, 1) := by decide +kernel
theorem dX4_best_88 : decode cX4_best 88 = .ok (.ireturn, 1) := by decide +kernel
theorem dX4_needs_0 : decode cX4_needs 0 = .ok (.aload_n 0, 1) := by decide +kernel
theorem dX4_needs_1 : decode cX4_needs 1 = .ok (.iload_n 1, 1) := by decide +kernel
theorem dX4_needs_2 : decode cX4_needs 2 = .ok (.bipush 40, 2) := by decide +kernel
theorem dX4_needs_4 : decode cX4_needs 4 = .ok (.invokevirtual 202, 3) := by decide +kernel
theorem dX4_needs_7 : decode cX4_needs 7 = .ok (.istore_n 2, 1) := by decide +kernel
theorem dX4_needs_8 : decode cX4_needs 8 = .ok (.iconst 0, 1) := by decide +kernel
theorem dX4_needs_9 : decode cX4_needs 9 = .ok (.istore_n 3, 1) := by decide +kernel
theorem dX4_needs_10 : decode cX4_needs 10 = .ok (.iload_n 3, 1) := by decide +kernel
theorem dX4_needs_11 : decode cX4_needs 11 = .ok (.bipush 40, 2) := by decide +kernel
theorem dX4_needs_13 : decode cX4_needs 13 = .ok (.if_icmp .ge 21, 3) := by decide +kernel
theorem dX4_needs_16 : decode cX4_needs 16 = .ok (.aload_n 0, 1) := by decide +kernel
theorem dX4_needs_17 : decode cX4_needs 17 = .ok (.iload_n 1, 1) := by decide +kernel
theorem dX4_needs_18 : decode cX4_needs 18 = .ok (.iload_n 3, 1) := by decide +kernel
theorem dX4_needs_19 : decode cX4_needs 19 = .ok (.invokevirtual 202, 3) := by decide +kernel
theorem dX4_needs_22 : decode cX4_needs 22 = .ok (.iload_n 2, 1) := by decide +kernel
theorem dX4_needs_23 : decode cX4_needs 23 = .ok (.if_icmp .ne 5, 3) := by decide +kernel
theorem dX4_needs_26 : decode cX4_needs 26 = .ok (.iload_n 3, 1) := by decide +kernel
theorem dX4_needs_27 : decode cX4_needs 27 = .ok (.ireturn, 1) := by decide +kernel
theorem dX4_needs_28 : decode cX4_needs 28 = .ok (.iinc 3 1, 3) := by decide +kernel
theorem dX4_needs_31 : decode cX4_needs 31 = .ok (.goto (-21), 3) := by decide +kernel
theorem dX4_needs_34 : decode cX4_needs 34 = .ok (.bipush 40, 2) := by decide +kernel
theorem dX4_needs_36 : decode cX4_needs 36 = .ok (.ireturn, 1) := by decide +kernel
theorem dX4_judge_0 : decode cX4_judge 0 = .ok (.iload_n 1, 1) := by decide +kernel
theorem dX4_judge_1 : decode cX4_judge 1 = .ok (.iconst 1, 1) := by decide +kernel
theorem dX4_judge_2 : decode cX4_judge 2 = .ok (.iconst 3, 1) := by decide +kernel
theorem dX4_judge_3 : decode cX4_judge 3 = .ok (.invokestatic 59, 3) := by decide +kernel
theorem dX4_judge_6 : decode cX4_judge 6 = .ok (.ifCond .ne 6, 3) := by decide +kernel
theorem dX4_judge_9 : decode cX4_judge 9 = .ok (.bipush (-2), 2) := by decide +kernel
theorem dX4_judge_11 : decode cX4_judge 11 = .ok (.ireturn, 1) := by decide +kernel
theorem dX4_judge_12 : decode cX4_judge 12 = .ok (.iconst 1, 1) := by decide +kernel
theorem dX4_judge_13 : decode cX4_judge 13 = .ok (.istore_n 3, 1) := by decide +kernel
theorem dX4_judge_14 : decode cX4_judge 14 = .ok (.iconst 0, 1) := by decide +kernel
theorem dX4_judge_15 : decode cX4_judge 15 = .ok (.istore 4, 2) := by decide +kernel
theorem dX4_judge_17 : decode cX4_judge 17 = .ok (.iload 4, 2) := by decide +kernel
theorem dX4_judge_19 : decode cX4_judge 19 = .ok (.iload_n 1, 1) := by decide +kernel
theorem dX4_judge_20 : decode cX4_judge 20 = .ok (.if_icmp .ge 15, 3) := by decide +kernel
theorem dX4_judge_23 : decode cX4_judge 23 = .ok (.iload_n 3, 1) := by decide +kernel
theorem dX4_judge_24 : decode cX4_judge 24 = .ok (.sipush 1000, 3) := by decide +kernel
theorem dX4_judge_27 : decode cX4_judge 27 = .ok (.imul, 1) := by decide +kernel
theorem dX4_judge_28 : decode cX4_judge 28 = .ok (.istore_n 3, 1) := by decide +kernel
theorem dX4_judge_29 : decode cX4_judge 29 = .ok (.iinc 4 1, 3) := by decide +kernel
theorem dX4_judge_32 : decode cX4_judge 32 = .ok (.goto (-15), 3) := by decide +kernel
theorem dX4_judge_35 : decode cX4_judge 35 = .ok (.iload_n 2, 1) := by decide +kernel
theorem dX4_judge_36 : decode cX4_judge 36 = .ok (.ifCond .lt 8, 3) := by decide +kernel
theorem dX4_judge_39 : decode cX4_judge 39 = .ok (.iload_n 2, 1) := by decide +kernel
theorem dX4_judge_40 : decode cX4_judge 40 = .ok (.iload_n 3, 1) := by decide +kernel
theorem dX4_judge_41 : decode cX4_judge 41 = .ok (.if_icmp .lt 6, 3) := by decide +kernel
theorem dX4_judge_44 : decode cX4_judge 44 = .ok (.bipush (-2), 2) := by decide +kernel
theorem dX4_judge_46 : decode cX4_judge 46 = .ok (.ireturn, 1) := by decide +kernel
theorem dX4_judge_47 : decode cX4_judge 47 = .ok (.aload_n 0, 1) := by decide +kernel
theorem dX4_judge_48 : decode cX4_judge 48 = .ok (.getfield 36, 3) := by decide +kernel
theorem dX4_judge_51 : decode cX4_judge 51 = .ok (.aload_n 0, 1) := by decide +kernel
theorem dX4_judge_52 : decode cX4_judge 52 = .ok (.getfield 32, 3) := by decide +kernel
theorem dX4_judge_55 : decode cX4_judge 55 = .ok (.invokevirtual 78, 3) := by decide +kernel
theorem dX4_judge_58 : decode cX4_judge 58 = .ok (.iconst 0, 1) := by decide +kernel
theorem dX4_judge_59 : decode cX4_judge 59 = .ok (.istore 4, 2) := by decide +kernel
theorem dX4_judge_61 : decode cX4_judge 61 = .ok (.iload 4, 2) := by decide +kernel
theorem dX4_judge_63 : decode cX4_judge 63 = .ok (.iload_n 1, 1) := by decide +kernel
theorem dX4_judge_64 : decode cX4_judge 64 = .ok (.if_icmp .ge 36, 3) := by decide +kernel
theorem dX4_judge_67 : decode cX4_judge 67 = .ok (.iconst 1, 1) := by decide +kernel
theorem dX4_judge_68 : decode cX4_judge 68 = .ok (.iload_n 3, 1) := by decide +kernel
theorem dX4_judge_69 : decode cX4_judge 69 = .ok (.sipush 1000, 3) := by decide +kernel
theorem dX4_judge_72 : decode cX4_judge 72 = .ok (.idiv, 1) := by decide +kernel
theorem dX4_judge_73 : decode cX4_judge 73 = .ok (.invokestatic 206, 3) := by decide +kernel
theorem dX4_judge_76 : decode cX4_judge 76 = .ok (.istore_n 3, 1) := by decide +kernel
theorem dX4_judge_77 : decode cX4_judge 77 = .ok (.aload_n 0, 1) := by decide +kernel
theorem dX4_judge_78 : decode cX4_judge 78 = .ok (.iload_n 2, 1) := by decide +kernel
theorem dX4_judge_79 : decode cX4_judge 79 = .ok (.iload_n 3, 1) := by decide +kernel
theorem dX4_judge_80 : decode cX4_judge 80 = .ok (.idiv, 1) := by decide +kernel
theorem dX4_judge_81 : decode cX4_judge 81 = .ok (.sipush 1000, 3) := by decide +kernel
theorem dX4_judge_84 : decode cX4_judge 84 = .ok (.irem, 1) := by decide +kernel
theorem dX4_judge_85 : decode cX4_judge 85 = .ok (.invokevirtual 212, 3) := by decide +kernel
theorem dX4_judge_88 : decode cX4_judge 88 = .ok (.ifCond .ne 6, 3) := by decide +kernel
theorem dX4_judge_91 : decode cX4_judge 91 = .ok (.iload 4, 2) := by decide +kernel
theorem dX4_judge_93 : decode cX4_judge 93 = .ok (.ireturn, 1) := by decide +kernel
theorem dX4_judge_94 : decode cX4_judge 94 = .ok (.iinc 4 1, 3) := by decide +kernel
theorem dX4_judge_97 : decode cX4_judge 97 = .ok (.goto (-36), 3) := by decide +kernel
theorem dX4_judge_100 : decode cX4_judge 100 = .ok (.bipush (-9), 2) := by decide +kernel
theorem dX4_judge_102 : decode cX4_judge 102 = .ok (.ireturn, 1) := by decide +kernel
theorem dX4_see_0 : decode cX4_see 0 = .ok (.iload_n 1, 1) := by decide +kernel
theorem dX4_see_1 : decode cX4_see 1 = .ok (.iconst 0, 1) := by decide +kernel
theorem dX4_see_2 : decode cX4_see 2 = .ok (.iconst 2, 1) := by decide +kernel
theorem dX4_see_3 : decode cX4_see 3 = .ok (.invokestatic 59, 3) := by decide +kernel
theorem dX4_see_6 : decode cX4_see 6 = .ok (.ifCond .eq 23, 3) := by decide +kernel
theorem dX4_see_9 : decode cX4_see 9 = .ok (.iload_n 2, 1) := by decide +kernel
theorem dX4_see_10 : decode cX4_see 10 = .ok (.iconst 0, 1) := by decide +kernel
theorem dX4_see_11 : decode cX4_see 11 = .ok (.bipush 20, 2) := by decide +kernel
theorem dX4_see_13 : decode cX4_see 13 = .ok (.invokestatic 59, 3) := by decide +kernel
theorem dX4_see_16 : decode cX4_see 16 = .ok (.ifCond .eq 13, 3) := by decide +kernel
theorem dX4_see_19 : decode cX4_see 19 = .ok (.iload_n 3, 1) := by decide +kernel
theorem dX4_see_20 : decode cX4_see 20 = .ok (.iconst 0, 1) := by decide +kernel
theorem dX4_see_21 : decode cX4_see 21 = .ok (.bipush 99, 2) := by decide +kernel
theorem dX4_see_23 : decode cX4_see 23 = .ok (.invokestatic 59, 3) := by decide +kernel
theorem dX4_see_26 : decode cX4_see 26 = .ok (.ifCond .ne 6, 3) := by decide +kernel
theorem dX4_see_29 : decode cX4_see 29 = .ok (.bipush (-2), 2) := by decide +kernel
theorem dX4_see_31 : decode cX4_see 31 = .ok (.ireturn, 1) := by decide +kernel
theorem dX4_see_32 : decode cX4_see 32 = .ok (.aload_n 0, 1) := by decide +kernel
theorem dX4_see_33 : decode cX4_see 33 = .ok (.getfield 102, 3) := by decide +kernel
theorem dX4_see_36 : decode cX4_see 36 = .ok (.bipush 6, 2) := by decide +kernel
theorem dX4_see_38 : decode cX4_see 38 = .ok (.if_icmp .lt 6, 3) := by decide +kernel
theorem dX4_see_41 : decode cX4_see 41 = .ok (.bipush (-4), 2) := by decide +kernel
theorem dX4_see_43 : decode cX4_see 43 = .ok (.ireturn, 1) := by decide +kernel
theorem dX4_see_44 : decode cX4_see 44 = .ok (.aload_n 0, 1) := by decide +kernel
theorem dX4_see_45 : decode cX4_see 45 = .ok (.getfield 50, 3) := by decide +kernel
theorem dX4_see_48 : decode cX4_see 48 = .ok (.aload_n 0, 1) := by decide +kernel
theorem dX4_see_49 : decode cX4_see 49 = .ok (.getfield 102, 3) := by decide +kernel
theorem dX4_see_52 : decode cX4_see 52 = .ok (.iload_n 1, 1) := by decide +kernel
theorem dX4_see_53 : decode cX4_see 53 = .ok (.iastore, 1) := by decide +kernel
theorem dX4_see_54 : decode cX4_see 54 = .ok (.aload_n 0, 1) := by decide +kernel
theorem dX4_see_55 : decode cX4_see 55 = .ok (.getfield 53, 3) := by decide +kernel
theorem dX4_see_58 : decode cX4_see 58 = .ok (.aload_n 0, 1) := by decide +kernel
theorem dX4_see_59 : decode cX4_see 59 = .ok (.getfield 102, 3) := by decide +kernel
theorem dX4_see_62 : decode cX4_see 62 = .ok (.iload_n 2, 1) := by decide +kernel
theorem dX4_see_63 : decode cX4_see 63 = .ok (.iastore, 1) := by decide +kernel
theorem dX4_see_64 : decode cX4_see 64 = .ok (.aload_n 0, 1) := by decide +kernel
theorem dX4_see_65 : decode cX4_see 65 = .ok (.getfield 56, 3) := by decide +kernel
theorem dX4_see_68 : decode cX4_see 68 = .ok (.aload_n 0, 1) := by decide +kernel
theorem dX4_see_69 : decode cX4_see 69 = .ok (.getfield 102, 3) := by decide +kernel
theorem dX4_see_72 : decode cX4_see 72 = .ok (.iload_n 3, 1) := by decide +kernel
theorem dX4_see_73 : decode cX4_see 73 = .ok (.iastore, 1) := by decide +kernel
theorem dX4_see_74 : decode cX4_see 74 = .ok (.aload_n 0, 1) := by decide +kernel
theorem dX4_see_75 : decode cX4_see 75 = .ok (.dup, 1) := by decide +kernel
theorem dX4_see_76 : decode cX4_see 76 = .ok (.getfield 102, 3) := by decide +kernel
theorem dX4_see_79 : decode cX4_see 79 = .ok (.iconst 1, 1) := by decide +kernel
theorem dX4_see_80 : decode cX4_see 80 = .ok (.iadd, 1) := by decide +kernel
theorem dX4_see_81 : decode cX4_see 81 = .ok (.putfield 102, 3) := by decide +kernel
theorem dX4_see_84 : decode cX4_see 84 = .ok (.aload_n 0, 1) := by decide +kernel
theorem dX4_see_85 : decode cX4_see 85 = .ok (.getfield 102, 3) := by decide +kernel
theorem dX4_see_88 : decode cX4_see 88 = .ok (.ireturn, 1) := by decide +kernel
theorem dX4_unsee_0 : decode cX4_unsee 0 = .ok (.aload_n 0, 1) := by decide +kernel
theorem dX4_unsee_1 : decode cX4_unsee 1 = .ok (.getfield 102, 3) := by decide +kernel
theorem dX4_unsee_4 : decode cX4_unsee 4 = .ok (.istore_n 1, 1) := by decide +kernel
theorem dX4_unsee_5 : decode cX4_unsee 5 = .ok (.aload_n 0, 1) := by decide +kernel
theorem dX4_unsee_6 : decode cX4_unsee 6 = .ok (.iconst 0, 1) := by decide +kernel
theorem dX4_unsee_7 : decode cX4_unsee 7 = .ok (.putfield 102, 3) := by decide +kernel
theorem dX4_unsee_10 : decode cX4_unsee 10 = .ok (.iload_n 1, 1) := by decide +kernel
theorem dX4_unsee_11 : decode cX4_unsee 11 = .ok (.ireturn, 1) := by decide +kernel
theorem dX4_which_0 : decode cX4_which 0 = .ok (.iconst 0, 1) := by decide +kernel
theorem dX4_which_1 : decode cX4_which 1 = .ok (.istore_n 1, 1) := by decide +kernel
theorem dX4_which_2 : decode cX4_which 2 = .ok (.iconst 0, 1) := by decide +kernel
theorem dX4_which_3 : decode cX4_which 3 = .ok (.istore_n 2, 1) := by decide +kernel
theorem dX4_which_4 : decode cX4_which 4 = .ok (.iload_n 2, 1) := by decide +kernel
theorem dX4_which_5 : decode cX4_which 5 = .ok (.bipush 10, 2) := by decide +kernel
theorem dX4_which_7 : decode cX4_which 7 = .ok (.if_icmp .ge 23, 3) := by decide +kernel
theorem dX4_which_10 : decode cX4_which 10 = .ok (.aload_n 0, 1) := by decide +kernel
theorem dX4_which_11 : decode cX4_which 11 = .ok (.iload_n 2, 1) := by decide +kernel
theorem dX4_which_12 : decode cX4_which 12 = .ok (.invokevirtual 215, 3) := by decide +kernel
theorem dX4_which_15 : decode cX4_which 15 = .ok (.ifCond .eq 9, 3) := by decide +kernel
theorem dX4_which_18 : decode cX4_which 18 = .ok (.iload_n 1, 1) := by decide +kernel
theorem dX4_which_19 : decode cX4_which 19 = .ok (.iconst 1, 1) := by decide +kernel
theorem dX4_which_20 : decode cX4_which 20 = .ok (.iload_n 2, 1) := by decide +kernel
theorem dX4_which_21 : decode cX4_which 21 = .ok (.ishl, 1) := by decide +kernel
theorem dX4_which_22 : decode cX4_which 22 = .ok (.ior, 1) := by decide +kernel
theorem dX4_which_23 : decode cX4_which 23 = .ok (.istore_n 1, 1) := by decide +kernel
theorem dX4_which_24 : decode cX4_which 24 = .ok (.iinc 2 1, 3) := by decide +kernel
theorem dX4_which_27 : decode cX4_which 27 = .ok (.goto (-23), 3) := by decide +kernel
theorem dX4_which_30 : decode cX4_which 30 = .ok (.iload_n 1, 1) := by decide +kernel
theorem dX4_which_31 : decode cX4_which 31 = .ok (.ireturn, 1) := by decide +kernel
theorem dX4_share_0 : decode cX4_share 0 = .ok (.aload_n 0, 1) := by decide +kernel
theorem dX4_share_1 : decode cX4_share 1 = .ok (.getfield 23, 3) := by decide +kernel
theorem dX4_share_4 : decode cX4_share 4 = .ok (.iload_n 1, 1) := by decide +kernel
theorem dX4_share_5 : decode cX4_share 5 = .ok (.invokevirtual 141, 3) := by decide +kernel
theorem dX4_share_8 : decode cX4_share 8 = .ok (.ifCond .ne 5, 3) := by decide +kernel
theorem dX4_share_11 : decode cX4_share 11 = .ok (.iconst (-1), 1) := by decide +kernel
theorem dX4_share_12 : decode cX4_share 12 = .ok (.ireturn, 1) := by decide +kernel
theorem dX4_share_13 : decode cX4_share 13 = .ok (.aload_n 0, 1) := by decide +kernel
theorem dX4_share_14 : decode cX4_share 14 = .ok (.getfield 23, 3) := by decide +kernel
theorem dX4_share_17 : decode cX4_share 17 = .ok (.getfield 84, 3) := by decide +kernel
theorem dX4_share_20 : decode cX4_share 20 = .ok (.iconst 1, 1) := by decide +kernel
theorem dX4_share_21 : decode cX4_share 21 = .ok (.isub, 1) := by decide +kernel
theorem dX4_share_22 : decode cX4_share 22 = .ok (.istore_n 3, 1) := by decide +kernel
theorem dX4_share_23 : decode cX4_share 23 = .ok (.iconst 1, 1) := by decide +kernel
theorem dX4_share_24 : decode cX4_share 24 = .ok (.iload_n 1, 1) := by decide +kernel
theorem dX4_share_25 : decode cX4_share 25 = .ok (.ishl, 1) := by decide +kernel
theorem dX4_share_26 : decode cX4_share 26 = .ok (.istore 4, 2) := by decide +kernel
theorem dX4_share_28 : decode cX4_share 28 = .ok (.iconst 1, 1) := by decide +kernel
theorem dX4_share_29 : decode cX4_share 29 = .ok (.aload_n 0, 1) := by decide +kernel
theorem dX4_share_30 : decode cX4_share 30 = .ok (.getfield 23, 3) := by decide +kernel
theorem dX4_share_33 : decode cX4_share 33 = .ok (.getfield 84, 3) := by decide +kernel
theorem dX4_share_36 : decode cX4_share 36 = .ok (.ishl, 1) := by decide +kernel
theorem dX4_share_37 : decode cX4_share 37 = .ok (.iconst 1, 1) := by decide +kernel
theorem dX4_share_38 : decode cX4_share 38 = .ok (.isub, 1) := by decide +kernel
theorem dX4_share_39 : decode cX4_share 39 = .ok (.istore 5, 2) := by decide +kernel
theorem dX4_share_41 : decode cX4_share 41 = .ok (.iconst 0, 1) := by decide +kernel
theorem dX4_share_42 : decode cX4_share 42 = .ok (.istore 6, 2) := by decide +kernel
theorem dX4_share_44 : decode cX4_share 44 = .ok (.iconst 0, 1) := by decide +kernel
theorem dX4_share_45 : decode cX4_share 45 = .ok (.istore 7, 2) := by decide +kernel
theorem dX4_share_47 : decode cX4_share 47 = .ok (.iload 7, 2) := by decide +kernel
theorem dX4_share_49 : decode cX4_share 49 = .ok (.iload 5, 2) := by decide +kernel
theorem dX4_share_51 : decode cX4_share 51 = .ok (.if_icmp .gt 73, 3) := by decide +kernel
theorem dX4_share_54 : decode cX4_share 54 = .ok (.iload 7, 2) := by decide +kernel
theorem dX4_share_56 : decode cX4_share 56 = .ok (.iload 4, 2) := by decide +kernel
theorem dX4_share_58 : decode cX4_share 58 = .ok (.iand, 1) := by decide +kernel
theorem dX4_share_59 : decode cX4_share 59 = .ok (.ifCond .ne 59, 3) := by decide +kernel
theorem dX4_share_62 : decode cX4_share 62 = .ok (.iload 7, 2) := by decide +kernel
theorem dX4_share_64 : decode cX4_share 64 = .ok (.invokestatic 218, 3) := by decide +kernel
theorem dX4_share_67 : decode cX4_share 67 = .ok (.istore 8, 2) := by decide +kernel
theorem dX4_share_69 : decode cX4_share 69 = .ok (.iload 8, 2) := by decide +kernel
theorem dX4_share_71 : decode cX4_share 71 = .ok (.invokestatic 223, 3) := by decide +kernel
theorem dX4_share_74 : decode cX4_share 74 = .ok (.iload_n 3, 1) := by decide +kernel
theorem dX4_share_75 : decode cX4_share 75 = .ok (.iload 8, 2) := by decide +kernel
theorem dX4_share_77 : decode cX4_share 77 = .ok (.isub, 1) := by decide +kernel
theorem dX4_share_78 : decode cX4_share 78 = .ok (.invokestatic 223, 3) := by decide +kernel
theorem dX4_share_81 : decode cX4_share 81 = .ok (.imul, 1) := by decide +kernel
theorem dX4_share_82 : decode cX4_share 82 = .ok (.istore 9, 2) := by decide +kernel
theorem dX4_share_84 : decode cX4_share 84 = .ok (.iload 6, 2) := by decide +kernel
theorem dX4_share_86 : decode cX4_share 86 = .ok (.iload 9, 2) := by decide +kernel
theorem dX4_share_88 : decode cX4_share 88 = .ok (.aload_n 0, 1) := by decide +kernel
theorem dX4_share_89 : decode cX4_share 89 = .ok (.iload 5, 2) := by decide +kernel
theorem dX4_share_91 : decode cX4_share 91 = .ok (.iload 7, 2) := by decide +kernel
theorem dX4_share_93 : decode cX4_share 93 = .ok (.iload 4, 2) := by decide +kernel
theorem dX4_share_95 : decode cX4_share 95 = .ok (.ior, 1) := by decide +kernel
theorem dX4_share_96 : decode cX4_share 96 = .ok (.iconst (-1), 1) := by decide +kernel
theorem dX4_share_97 : decode cX4_share 97 = .ok (.ixor, 1) := by decide +kernel
theorem dX4_share_98 : decode cX4_share 98 = .ok (.iand, 1) := by decide +kernel
theorem dX4_share_99 : decode cX4_share 99 = .ok (.invokevirtual 226, 3) := by decide +kernel
theorem dX4_share_102 : decode cX4_share 102 = .ok (.aload_n 0, 1) := by decide +kernel
theorem dX4_share_103 : decode cX4_share 103 = .ok (.iload 5, 2) := by decide +kernel
theorem dX4_share_105 : decode cX4_share 105 = .ok (.iload 7, 2) := by decide +kernel
theorem dX4_share_107 : decode cX4_share 107 = .ok (.iconst (-1), 1) := by decide +kernel
theorem dX4_share_108 : decode cX4_share 108 = .ok (.ixor, 1) := by decide +kernel
theorem dX4_share_109 : decode cX4_share 109 = .ok (.iand, 1) := by decide +kernel
theorem dX4_share_110 : decode cX4_share 110 = .ok (.invokevirtual 226, 3) := by decide +kernel
theorem dX4_share_113 : decode cX4_share 113 = .ok (.isub, 1) := by decide +kernel
theorem dX4_share_114 : decode cX4_share 114 = .ok (.imul, 1) := by decide +kernel
theorem dX4_share_115 : decode cX4_share 115 = .ok (.iadd, 1) := by decide +kernel
theorem dX4_share_116 : decode cX4_share 116 = .ok (.istore 6, 2) := by decide +kernel
theorem dX4_share_118 : decode cX4_share 118 = .ok (.iinc 7 1, 3) := by decide +kernel
theorem dX4_share_121 : decode cX4_share 121 = .ok (.goto (-74), 3) := by decide +kernel
theorem dX4_share_124 : decode cX4_share 124 = .ok (.iload 6, 2) := by decide +kernel
theorem dX4_share_126 : decode cX4_share 126 = .ok (.aload_n 0, 1) := by decide +kernel
theorem dX4_share_127 : decode cX4_share 127 = .ok (.getfield 23, 3) := by decide +kernel
theorem dX4_share_130 : decode cX4_share 130 = .ok (.getfield 84, 3) := by decide +kernel
theorem dX4_share_133 : decode cX4_share 133 = .ok (.invokestatic 223, 3) := by decide +kernel
theorem dX4_share_136 : decode cX4_share 136 = .ok (.iload_n 2, 1) := by decide +kernel
theorem dX4_share_137 : decode cX4_share 137 = .ok (.invokestatic 229, 3) := by decide +kernel
theorem dX4_share_140 : decode cX4_share 140 = .ok (.ireturn, 1) := by decide +kernel
theorem dX4_chance_0 : decode cX4_chance 0 = .ok (.iload_n 1, 1) := by decide +kernel
theorem dX4_chance_1 : decode cX4_chance 1 = .ok (.iconst 1, 1) := by decide +kernel
theorem dX4_chance_2 : decode cX4_chance 2 = .ok (.bipush 6, 2) := by decide +kernel
theorem dX4_chance_4 : decode cX4_chance 4 = .ok (.invokestatic 59, 3) := by decide +kernel
theorem dX4_chance_7 : decode cX4_chance 7 = .ok (.ifCond .eq 13, 3) := by decide +kernel
theorem dX4_chance_10 : decode cX4_chance 10 = .ok (.iload_n 2, 1) := by decide +kernel
theorem dX4_chance_11 : decode cX4_chance 11 = .ok (.iconst 0, 1) := by decide +kernel
theorem dX4_chance_12 : decode cX4_chance 12 = .ok (.bipush 10, 2) := by decide +kernel
theorem dX4_chance_14 : decode cX4_chance 14 = .ok (.invokestatic 59, 3) := by decide +kernel
theorem dX4_chance_17 : decode cX4_chance 17 = .ok (.ifCond .ne 6, 3) := by decide +kernel
theorem dX4_chance_20 : decode cX4_chance 20 = .ok (.bipush (-2), 2) := by decide +kernel
theorem dX4_chance_22 : decode cX4_chance 22 = .ok (.ireturn, 1) := by decide +kernel
theorem dX4_chance_23 : decode cX4_chance 23 = .ok (.iconst 1, 1) := by decide +kernel
theorem dX4_chance_24 : decode cX4_chance 24 = .ok (.istore 4, 2) := by decide +kernel
theorem dX4_chance_26 : decode cX4_chance 26 = .ok (.iconst 1, 1) := by decide +kernel
theorem dX4_chance_27 : decode cX4_chance 27 = .ok (.istore 5, 2) := by decide +kernel
theorem dX4_chance_29 : decode cX4_chance 29 = .ok (.aload_n 0, 1) := by decide +kernel
theorem dX4_chance_30 : decode cX4_chance 30 = .ok (.getfield 36, 3) := by decide +kernel
theorem dX4_chance_33 : decode cX4_chance 33 = .ok (.aload_n 0, 1) := by decide +kernel
theorem dX4_chance_34 : decode cX4_chance 34 = .ok (.getfield 32, 3) := by decide +kernel
theorem dX4_chance_37 : decode cX4_chance 37 = .ok (.invokevirtual 78, 3) := by decide +kernel
theorem dX4_chance_40 : decode cX4_chance 40 = .ok (.iconst 0, 1) := by decide +kernel
theorem dX4_chance_41 : decode cX4_chance 41 = .ok (.istore 6, 2) := by decide +kernel
theorem dX4_chance_43 : decode cX4_chance 43 = .ok (.iload 6, 2) := by decide +kernel
theorem dX4_chance_45 : decode cX4_chance 45 = .ok (.iload_n 1, 1) := by decide +kernel
theorem dX4_chance_46 : decode cX4_chance 46 = .ok (.if_icmp .ge 81, 3) := by decide +kernel
theorem dX4_chance_49 : decode cX4_chance 49 = .ok (.aload_n 0, 1) := by decide +kernel
theorem dX4_chance_50 : decode cX4_chance 50 = .ok (.getfield 36, 3) := by decide +kernel
theorem dX4_chance_53 : decode cX4_chance 53 = .ok (.getfield 156, 3) := by decide +kernel
theorem dX4_chance_56 : decode cX4_chance 56 = .ok (.ifCond .ne 71, 3) := by decide +kernel
theorem dX4_chance_59 : decode cX4_chance 59 = .ok (.aload_n 0, 1) := by decide +kernel
theorem dX4_chance_60 : decode cX4_chance 60 = .ok (.getfield 36, 3) := by decide +kernel
theorem dX4_chance_63 : decode cX4_chance 63 = .ok (.getfield 233, 3) := by decide +kernel
theorem dX4_chance_66 : decode cX4_chance 66 = .ok (.aload_n 0, 1) := by decide +kernel
theorem dX4_chance_67 : decode cX4_chance 67 = .ok (.getfield 36, 3) := by decide +kernel
theorem dX4_chance_70 : decode cX4_chance 70 = .ok (.getfield 236, 3) := by decide +kernel
theorem dX4_chance_73 : decode cX4_chance 73 = .ok (.iadd, 1) := by decide +kernel
theorem dX4_chance_74 : decode cX4_chance 74 = .ok (.istore 7, 2) := by decide +kernel
theorem dX4_chance_76 : decode cX4_chance 76 = .ok (.aload_n 0, 1) := by decide +kernel
theorem dX4_chance_77 : decode cX4_chance 77 = .ok (.getfield 36, 3) := by decide +kernel
theorem dX4_chance_80 : decode cX4_chance 80 = .ok (.iconst 1, 1) := by decide +kernel
theorem dX4_chance_81 : decode cX4_chance 81 = .ok (.invokevirtual 163, 3) := by decide +kernel
theorem dX4_chance_84 : decode cX4_chance 84 = .ok (.pop, 1) := by decide +kernel
theorem dX4_chance_85 : decode cX4_chance 85 = .ok (.aload_n 0, 1) := by decide +kernel
theorem dX4_chance_86 : decode cX4_chance 86 = .ok (.getfield 36, 3) := by decide +kernel
theorem dX4_chance_89 : decode cX4_chance 89 = .ok (.getfield 233, 3) := by decide +kernel
theorem dX4_chance_92 : decode cX4_chance 92 = .ok (.aload_n 0, 1) := by decide +kernel
theorem dX4_chance_93 : decode cX4_chance 93 = .ok (.getfield 36, 3) := by decide +kernel
theorem dX4_chance_96 : decode cX4_chance 96 = .ok (.getfield 236, 3) := by decide +kernel
theorem dX4_chance_99 : decode cX4_chance 99 = .ok (.iadd, 1) := by decide +kernel
theorem dX4_chance_100 : decode cX4_chance 100 = .ok (.iload 7, 2) := by decide +kernel
theorem dX4_chance_102 : decode cX4_chance 102 = .ok (.if_icmp .le 19, 3) := by decide +kernel
theorem dX4_chance_105 : decode cX4_chance 105 = .ok (.iload 4, 2) := by decide +kernel
theorem dX4_chance_107 : decode cX4_chance 107 = .ok (.bipush 10, 2) := by decide +kernel
theorem dX4_chance_109 : decode cX4_chance 109 = .ok (.iload_n 2, 1) := by decide +kernel
theorem dX4_chance_110 : decode cX4_chance 110 = .ok (.isub, 1) := by decide +kernel
theorem dX4_chance_111 : decode cX4_chance 111 = .ok (.imul, 1) := by decide +kernel
theorem dX4_chance_112 : decode cX4_chance 112 = .ok (.istore 4, 2) := by decide +kernel
theorem dX4_chance_114 : decode cX4_chance 114 = .ok (.iload 5, 2) := by decide +kernel
theorem dX4_chance_116 : decode cX4_chance 116 = .ok (.bipush 10, 2) := by decide +kernel
theorem dX4_chance_118 : decode cX4_chance 118 = .ok (.imul, 1) := by decide +kernel
theorem dX4_chance_119 : decode cX4_chance 119 = .ok (.istore 5, 2) := by decide +kernel
theorem dX4_chance_121 : decode cX4_chance 121 = .ok (.iinc 6 1, 3) := by decide +kernel
theorem dX4_chance_124 : decode cX4_chance 124 = .ok (.goto (-81), 3) := by decide +kernel
theorem dX4_chance_127 : decode cX4_chance 127 = .ok (.aload_n 0, 1) := by decide +kernel
theorem dX4_chance_128 : decode cX4_chance 128 = .ok (.getfield 36, 3) := by decide +kernel
theorem dX4_chance_131 : decode cX4_chance 131 = .ok (.getfield 156, 3) := by decide +kernel
theorem dX4_chance_134 : decode cX4_chance 134 = .ok (.ifCond .eq 7, 3) := by decide +kernel
theorem dX4_chance_137 : decode cX4_chance 137 = .ok (.iconst 0, 1) := by decide +kernel
theorem dX4_chance_138 : decode cX4_chance 138 = .ok (.goto 5, 3) := by decide +kernel
theorem dX4_chance_141 : decode cX4_chance 141 = .ok (.iload 4, 2) := by decide +kernel
theorem dX4_chance_143 : decode cX4_chance 143 = .ok (.iload 5, 2) := by decide +kernel
theorem dX4_chance_145 : decode cX4_chance 145 = .ok (.iload_n 3, 1) := by decide +kernel
theorem dX4_chance_146 : decode cX4_chance 146 = .ok (.invokestatic 229, 3) := by decide +kernel
theorem dX4_chance_149 : decode cX4_chance 149 = .ok (.ireturn, 1) := by decide +kernel
theorem dX4_seed_0 : decode cX4_seed 0 = .ok (.aload_n 0, 1) := by decide +kernel
theorem dX4_seed_1 : decode cX4_seed 1 = .ok (.getfield 239, 3) := by decide +kernel
theorem dX4_seed_4 : decode cX4_seed 4 = .ok (.lstore_n 3, 1) := by decide +kernel
theorem dX4_seed_5 : decode cX4_seed 5 = .ok (.aload_n 0, 1) := by decide +kernel
theorem dX4_seed_6 : decode cX4_seed 6 = .ok (.lload_n 1, 1) := by decide +kernel
theorem dX4_seed_7 : decode cX4_seed 7 = .ok (.putfield 239, 3) := by decide +kernel
theorem dX4_seed_10 : decode cX4_seed 10 = .ok (.lload_n 3, 1) := by decide +kernel
theorem dX4_seed_11 : decode cX4_seed 11 = .ok (.lreturn, 1) := by decide +kernel
theorem dX4_drawn_0 : decode cX4_drawn 0 = .ok (.iload_n 1, 1) := by decide +kernel
theorem dX4_drawn_1 : decode cX4_drawn 1 = .ok (.iconst 1, 1) := by decide +kernel
theorem dX4_drawn_2 : decode cX4_drawn 2 = .ok (.bipush 20, 2) := by decide +kernel
theorem dX4_drawn_4 : decode cX4_drawn 4 = .ok (.invokestatic 59, 3) := by decide +kernel
theorem dX4_drawn_7 : decode cX4_drawn 7 = .ok (.ifCond .ne 6, 3) := by decide +kernel
theorem dX4_drawn_10 : decode cX4_drawn 10 = .ok (.bipush (-2), 2) := by decide +kernel
theorem dX4_drawn_12 : decode cX4_drawn 12 = .ok (.ireturn, 1) := by decide +kernel
theorem dX4_drawn_13 : decode cX4_drawn 13 = .ok (.aload_n 0, 1) := by decide +kernel
theorem dX4_drawn_14 : decode cX4_drawn 14 = .ok (.getfield 36, 3) := by decide +kernel
theorem dX4_drawn_17 : decode cX4_drawn 17 = .ok (.aload_n 0, 1) := by decide +kernel
theorem dX4_drawn_18 : decode cX4_drawn 18 = .ok (.getfield 32, 3) := by decide +kernel
theorem dX4_drawn_21 : decode cX4_drawn 21 = .ok (.invokevirtual 78, 3) := by decide +kernel
theorem dX4_drawn_24 : decode cX4_drawn 24 = .ok (.iconst 0, 1) := by decide +kernel
theorem dX4_drawn_25 : decode cX4_drawn 25 = .ok (.istore_n 2, 1) := by decide +kernel
theorem dX4_drawn_26 : decode cX4_drawn 26 = .ok (.iconst 0, 1) := by decide +kernel
theorem dX4_drawn_27 : decode cX4_drawn 27 = .ok (.istore_n 3, 1) := by decide +kernel
theorem dX4_drawn_28 : decode cX4_drawn 28 = .ok (.iload_n 3, 1) := by decide +kernel
theorem dX4_drawn_29 : decode cX4_drawn 29 = .ok (.iload_n 1, 1) := by decide +kernel
theorem dX4_drawn_30 : decode cX4_drawn 30 = .ok (.if_icmp .ge 58, 3) := by decide +kernel
theorem dX4_drawn_33 : decode cX4_drawn 33 = .ok (.aload_n 0, 1) := by decide +kernel
theorem dX4_drawn_34 : decode cX4_drawn 34 = .ok (.aload_n 0, 1) := by decide +kernel
theorem dX4_drawn_35 : decode cX4_drawn 35 = .ok (.getfield 239, 3) := by decide +kernel
theorem dX4_drawn_38 : decode cX4_drawn 38 = .ok (.ldc2_w 243, 3) := by decide +kernel
theorem dX4_drawn_41 : decode cX4_drawn 41 = .ok (.lmul, 1) := by decide +kernel
theorem dX4_drawn_42 : decode cX4_drawn 42 = .ok (.ldc2_w 245, 3) := by decide +kernel
theorem dX4_drawn_45 : decode cX4_drawn 45 = .ok (.ladd, 1) := by decide +kernel
theorem dX4_drawn_46 : decode cX4_drawn 46 = .ok (.putfield 239, 3) := by decide +kernel
theorem dX4_drawn_49 : decode cX4_drawn 49 = .ok (.aload_n 0, 1) := by decide +kernel
theorem dX4_drawn_50 : decode cX4_drawn 50 = .ok (.aload_n 0, 1) := by decide +kernel
theorem dX4_drawn_51 : decode cX4_drawn 51 = .ok (.getfield 239, 3) := by decide +kernel
theorem dX4_drawn_54 : decode cX4_drawn 54 = .ok (.bipush 33, 2) := by decide +kernel
theorem dX4_drawn_56 : decode cX4_drawn 56 = .ok (.lushr, 1) := by decide +kernel
theorem dX4_drawn_57 : decode cX4_drawn 57 = .ok (.l2i, 1) := by decide +kernel
theorem dX4_drawn_58 : decode cX4_drawn 58 = .ok (.bipush 10, 2) := by decide +kernel
theorem dX4_drawn_60 : decode cX4_drawn 60 = .ok (.irem, 1) := by decide +kernel
theorem dX4_drawn_61 : decode cX4_drawn 61 = .ok (.invokevirtual 247, 3) := by decide +kernel
theorem dX4_drawn_64 : decode cX4_drawn 64 = .ok (.iload_n 2, 1) := by decide +kernel
theorem dX4_drawn_65 : decode cX4_drawn 65 = .ok (.aload_n 0, 1) := by decide +kernel
theorem dX4_drawn_66 : decode cX4_drawn 66 = .ok (.getfield 36, 3) := by decide +kernel
theorem dX4_drawn_69 : decode cX4_drawn 69 = .ok (.getfield 199, 3) := by decide +kernel
theorem dX4_drawn_72 : decode cX4_drawn 72 = .ok (.aload_n 0, 1) := by decide +kernel
theorem dX4_drawn_73 : decode cX4_drawn 73 = .ok (.getfield 36, 3) := by decide +kernel
theorem dX4_drawn_76 : decode cX4_drawn 76 = .ok (.getfield 250, 3) := by decide +kernel
theorem dX4_drawn_79 : decode cX4_drawn 79 = .ok (.isub, 1) := by decide +kernel
theorem dX4_drawn_80 : decode cX4_drawn 80 = .ok (.iadd, 1) := by decide +kernel
theorem dX4_drawn_81 : decode cX4_drawn 81 = .ok (.istore_n 2, 1) := by decide +kernel
theorem dX4_drawn_82 : decode cX4_drawn 82 = .ok (.iinc 3 1, 3) := by decide +kernel
theorem dX4_drawn_85 : decode cX4_drawn 85 = .ok (.goto (-57), 3) := by decide +kernel
theorem dX4_drawn_88 : decode cX4_drawn 88 = .ok (.iload_n 2, 1) := by decide +kernel
theorem dX4_drawn_89 : decode cX4_drawn 89 = .ok (.ireturn, 1) := by decide +kernel
theorem dX4_keep_0 : decode cX4_keep 0 = .ok (.iload_n 1, 1) := by decide +kernel
theorem dX4_keep_1 : decode cX4_keep 1 = .ok (.iconst 0, 1) := by decide +kernel
theorem dX4_keep_2 : decode cX4_keep 2 = .ok (.iconst 1, 1) := by decide +kernel
theorem dX4_keep_3 : decode cX4_keep 3 = .ok (.invokestatic 59, 3) := by decide +kernel
theorem dX4_keep_6 : decode cX4_keep 6 = .ok (.ifCond .ne 5, 3) := by decide +kernel
theorem dX4_keep_9 : decode cX4_keep 9 = .ok (.iconst (-1), 1) := by decide +kernel
theorem dX4_keep_10 : decode cX4_keep 10 = .ok (.ireturn, 1) := by decide +kernel
theorem dX4_keep_11 : decode cX4_keep 11 = .ok (.aload_n 0, 1) := by decide +kernel
theorem dX4_keep_12 : decode cX4_keep 12 = .ok (.getfield 43, 3) := by decide +kernel
theorem dX4_keep_15 : decode cX4_keep 15 = .ok (.iload_n 1, 1) := by decide +kernel
theorem dX4_keep_16 : decode cX4_keep 16 = .ok (.aaload, 1) := by decide +kernel
theorem dX4_keep_17 : decode cX4_keep 17 = .ok (.aload_n 0, 1) := by decide +kernel
theorem dX4_keep_18 : decode cX4_keep 18 = .ok (.getfield 32, 3) := by decide +kernel
theorem dX4_keep_21 : decode cX4_keep 21 = .ok (.invokevirtual 78, 3) := by decide +kernel
theorem dX4_keep_24 : decode cX4_keep 24 = .ok (.aload_n 0, 1) := by decide +kernel
theorem dX4_keep_25 : decode cX4_keep 25 = .ok (.getfield 46, 3) := by decide +kernel
theorem dX4_keep_28 : decode cX4_keep 28 = .ok (.iload_n 1, 1) := by decide +kernel
theorem dX4_keep_29 : decode cX4_keep 29 = .ok (.iconst 1, 1) := by decide +kernel
theorem dX4_keep_30 : decode cX4_keep 30 = .ok (.bastore, 1) := by decide +kernel
theorem dX4_keep_31 : decode cX4_keep 31 = .ok (.aload_n 0, 1) := by decide +kernel
theorem dX4_keep_32 : decode cX4_keep 32 = .ok (.getfield 32, 3) := by decide +kernel
theorem dX4_keep_35 : decode cX4_keep 35 = .ok (.getfield 253, 3) := by decide +kernel
theorem dX4_keep_38 : decode cX4_keep 38 = .ok (.ireturn, 1) := by decide +kernel
theorem dX4_again_0 : decode cX4_again 0 = .ok (.iload_n 1, 1) := by decide +kernel
theorem dX4_again_1 : decode cX4_again 1 = .ok (.iconst 0, 1) := by decide +kernel
theorem dX4_again_2 : decode cX4_again 2 = .ok (.iconst 1, 1) := by decide +kernel
theorem dX4_again_3 : decode cX4_again 3 = .ok (.invokestatic 59, 3) := by decide +kernel
theorem dX4_again_6 : decode cX4_again 6 = .ok (.ifCond .ne 5, 3) := by decide +kernel
theorem dX4_again_9 : decode cX4_again 9 = .ok (.iconst (-1), 1) := by decide +kernel
theorem dX4_again_10 : decode cX4_again 10 = .ok (.ireturn, 1) := by decide +kernel
theorem dX4_again_11 : decode cX4_again 11 = .ok (.aload_n 0, 1) := by decide +kernel
theorem dX4_again_12 : decode cX4_again 12 = .ok (.getfield 46, 3) := by decide +kernel
theorem dX4_again_15 : decode cX4_again 15 = .ok (.iload_n 1, 1) := by decide +kernel
theorem dX4_again_16 : decode cX4_again 16 = .ok (.baload, 1) := by decide +kernel
theorem dX4_again_17 : decode cX4_again 17 = .ok (.ifCond .ne 6, 3) := by decide +kernel
theorem dX4_again_20 : decode cX4_again 20 = .ok (.bipush (-3), 2) := by decide +kernel
theorem dX4_again_22 : decode cX4_again 22 = .ok (.ireturn, 1) := by decide +kernel
theorem dX4_again_23 : decode cX4_again 23 = .ok (.aload_n 0, 1) := by decide +kernel
theorem dX4_again_24 : decode cX4_again 24 = .ok (.getfield 32, 3) := by decide +kernel
theorem dX4_again_27 : decode cX4_again 27 = .ok (.aload_n 0, 1) := by decide +kernel
theorem dX4_again_28 : decode cX4_again 28 = .ok (.getfield 43, 3) := by decide +kernel
theorem dX4_again_31 : decode cX4_again 31 = .ok (.iload_n 1, 1) := by decide +kernel
theorem dX4_again_32 : decode cX4_again 32 = .ok (.aaload, 1) := by decide +kernel
theorem dX4_again_33 : decode cX4_again 33 = .ok (.invokevirtual 78, 3) := by decide +kernel
theorem dX4_again_36 : decode cX4_again 36 = .ok (.aload_n 0, 1) := by decide +kernel
theorem dX4_again_37 : decode cX4_again 37 = .ok (.invokevirtual 81, 3) := by decide +kernel
theorem dX4_again_40 : decode cX4_again 40 = .ok (.aload_n 0, 1) := by decide +kernel
theorem dX4_again_41 : decode cX4_again 41 = .ok (.getfield 32, 3) := by decide +kernel
theorem dX4_again_44 : decode cX4_again 44 = .ok (.getfield 253, 3) := by decide +kernel
theorem dX4_again_47 : decode cX4_again 47 = .ok (.ireturn, 1) := by decide +kernel
theorem dX4_isWithin_0 : decode cX4_isWithin 0 = .ok (.iload_n 0, 1) := by decide +kernel
theorem dX4_isWithin_1 : decode cX4_isWithin 1 = .ok (.iload_n 1, 1) := by decide +kernel
theorem dX4_isWithin_2 : decode cX4_isWithin 2 = .ok (.if_icmp .lt 12, 3) := by decide +kernel
theorem dX4_isWithin_5 : decode cX4_isWithin 5 = .ok (.iload_n 0, 1) := by decide +kernel
theorem dX4_isWithin_6 : decode cX4_isWithin 6 = .ok (.iload_n 2, 1) := by decide +kernel
theorem dX4_isWithin_7 : decode cX4_isWithin 7 = .ok (.if_icmp .gt 7, 3) := by decide +kernel
theorem dX4_isWithin_10 : decode cX4_isWithin 10 = .ok (.iconst 1, 1) := by decide +kernel
theorem dX4_isWithin_11 : decode cX4_isWithin 11 = .ok (.goto 4, 3) := by decide +kernel
theorem dX4_isWithin_14 : decode cX4_isWithin 14 = .ok (.iconst 0, 1) := by decide +kernel
theorem dX4_isWithin_15 : decode cX4_isWithin 15 = .ok (.ireturn, 1) := by decide +kernel
theorem dX4_asNumber_0 : decode cX4_asNumber 0 = .ok (.iload_n 0, 1) := by decide +kernel
theorem dX4_asNumber_1 : decode cX4_asNumber 1 = .ok (.ifCond .eq 7, 3) := by decide +kernel
theorem dX4_asNumber_4 : decode cX4_asNumber 4 = .ok (.iconst 1, 1) := by decide +kernel
theorem dX4_asNumber_5 : decode cX4_asNumber 5 = .ok (.goto 4, 3) := by decide +kernel
theorem dX4_asNumber_8 : decode cX4_asNumber 8 = .ok (.iconst 0, 1) := by decide +kernel
theorem dX4_asNumber_9 : decode cX4_asNumber 9 = .ok (.ireturn, 1) := by decide +kernel
theorem dX4_limited_0 : decode cX4_limited 0 = .ok (.iconst 0, 1) := by decide +kernel
theorem dX4_limited_1 : decode cX4_limited 1 = .ok (.bipush 99, 2) := by decide +kernel
theorem dX4_limited_3 : decode cX4_limited 3 = .ok (.iload_n 0, 1) := by decide +kernel
theorem dX4_limited_4 : decode cX4_limited 4 = .ok (.invokestatic 256, 3) := by decide +kernel
theorem dX4_limited_7 : decode cX4_limited 7 = .ok (.invokestatic 206, 3) := by decide +kernel
theorem dX4_limited_10 : decode cX4_limited 10 = .ok (.ireturn, 1) := by decide +kernel
theorem dX4_factorial_0 : decode cX4_factorial 0 = .ok (.iconst 1, 1) := by decide +kernel
theorem dX4_factorial_1 : decode cX4_factorial 1 = .ok (.istore_n 1, 1) := by decide +kernel
theorem dX4_factorial_2 : decode cX4_factorial 2 = .ok (.iconst 2, 1) := by decide +kernel
theorem dX4_factorial_3 : decode cX4_factorial 3 = .ok (.istore_n 2, 1) := by decide +kernel
theorem dX4_factorial_4 : decode cX4_factorial 4 = .ok (.iload_n 2, 1) := by decide +kernel
theorem dX4_factorial_5 : decode cX4_factorial 5 = .ok (.iload_n 0, 1) := by decide +kernel
theorem dX4_factorial_6 : decode cX4_factorial 6 = .ok (.if_icmp .gt 18, 3) := by decide +kernel
theorem dX4_factorial_9 : decode cX4_factorial 9 = .ok (.iload_n 2, 1) := by decide +kernel
theorem dX4_factorial_10 : decode cX4_factorial 10 = .ok (.iconst 4, 1) := by decide +kernel
theorem dX4_factorial_11 : decode cX4_factorial 11 = .ok (.if_icmp .gt 13, 3) := by decide +kernel
theorem dX4_factorial_14 : decode cX4_factorial 14 = .ok (.iload_n 1, 1) := by decide +kernel
theorem dX4_factorial_15 : decode cX4_factorial 15 = .ok (.iload_n 2, 1) := by decide +kernel
theorem dX4_factorial_16 : decode cX4_factorial 16 = .ok (.imul, 1) := by decide +kernel
theorem dX4_factorial_17 : decode cX4_factorial 17 = .ok (.istore_n 1, 1) := by decide +kernel
theorem dX4_factorial_18 : decode cX4_factorial 18 = .ok (.iinc 2 1, 3) := by decide +kernel
theorem dX4_factorial_21 : decode cX4_factorial 21 = .ok (.goto (-17), 3) := by decide +kernel
theorem dX4_factorial_24 : decode cX4_factorial 24 = .ok (.iload_n 1, 1) := by decide +kernel
theorem dX4_factorial_25 : decode cX4_factorial 25 = .ok (.ireturn, 1) := by decide +kernel
theorem dX4_partOf_0 : decode cX4_partOf 0 = .ok (.iconst 1, 1) := by decide +kernel
theorem dX4_partOf_1 : decode cX4_partOf 1 = .ok (.iload_n 0, 1) := by decide +kernel
theorem dX4_partOf_2 : decode cX4_partOf 2 = .ok (.invokestatic 259, 3) := by decide +kernel
theorem dX4_partOf_5 : decode cX4_partOf 5 = .ok (.iload_n 1, 1) := by decide +kernel
theorem dX4_partOf_6 : decode cX4_partOf 6 = .ok (.invokestatic 262, 3) := by decide +kernel
theorem dX4_partOf_9 : decode cX4_partOf 9 = .ok (.invokestatic 206, 3) := by decide +kernel
theorem dX4_partOf_12 : decode cX4_partOf 12 = .ok (.istore_n 3, 1) := by decide +kernel
theorem dX4_partOf_13 : decode cX4_partOf 13 = .ok (.iload_n 2, 1) := by decide +kernel
theorem dX4_partOf_14 : decode cX4_partOf 14 = .ok (.ifCond .eq 7, 3) := by decide +kernel
theorem dX4_partOf_17 : decode cX4_partOf 17 = .ok (.iload_n 0, 1) := by decide +kernel
theorem dX4_partOf_18 : decode cX4_partOf 18 = .ok (.goto 4, 3) := by decide +kernel
theorem dX4_partOf_21 : decode cX4_partOf 21 = .ok (.iload_n 1, 1) := by decide +kernel
theorem dX4_partOf_22 : decode cX4_partOf 22 = .ok (.iload_n 3, 1) := by decide +kernel
theorem dX4_partOf_23 : decode cX4_partOf 23 = .ok (.idiv, 1) := by decide +kernel
theorem dX4_partOf_24 : decode cX4_partOf 24 = .ok (.ireturn, 1) := by decide +kernel
theorem dX4_commonDivisor_0 : decode cX4_commonDivisor 0 = .ok (.iconst 0, 1) := by decide +kernel
theorem dX4_commonDivisor_1 : decode cX4_commonDivisor 1 = .ok (.istore_n 2, 1) := by decide +kernel
theorem dX4_commonDivisor_2 : decode cX4_commonDivisor 2 = .ok (.iload_n 2, 1) := by decide +kernel
theorem dX4_commonDivisor_3 : decode cX4_commonDivisor 3 = .ok (.bipush 50, 2) := by decide +kernel
theorem dX4_commonDivisor_5 : decode cX4_commonDivisor 5 = .ok (.if_icmp .ge 21, 3) := by decide +kernel
theorem dX4_commonDivisor_8 : decode cX4_commonDivisor 8 = .ok (.iload_n 1, 1) := by decide +kernel
theorem dX4_commonDivisor_9 : decode cX4_commonDivisor 9 = .ok (.ifCond .eq 17, 3) := by decide +kernel
theorem dX4_commonDivisor_12 : decode cX4_commonDivisor 12 = .ok (.iload_n 0, 1) := by decide +kernel
theorem dX4_commonDivisor_13 : decode cX4_commonDivisor 13 = .ok (.iload_n 1, 1) := by decide +kernel
theorem dX4_commonDivisor_14 : decode cX4_commonDivisor 14 = .ok (.irem, 1) := by decide +kernel
theorem dX4_commonDivisor_15 : decode cX4_commonDivisor 15 = .ok (.istore_n 3, 1) := by decide +kernel
theorem dX4_commonDivisor_16 : decode cX4_commonDivisor 16 = .ok (.iload_n 1, 1) := by decide +kernel
theorem dX4_commonDivisor_17 : decode cX4_commonDivisor 17 = .ok (.istore_n 0, 1) := by decide +kernel
theorem dX4_commonDivisor_18 : decode cX4_commonDivisor 18 = .ok (.iload_n 3, 1) := by decide +kernel
theorem dX4_commonDivisor_19 : decode cX4_commonDivisor 19 = .ok (.istore_n 1, 1) := by decide +kernel
theorem dX4_commonDivisor_20 : decode cX4_commonDivisor 20 = .ok (.iinc 2 1, 3) := by decide +kernel
theorem dX4_commonDivisor_23 : decode cX4_commonDivisor 23 = .ok (.goto (-21), 3) := by decide +kernel
theorem dX4_commonDivisor_26 : decode cX4_commonDivisor 26 = .ok (.iload_n 0, 1) := by decide +kernel
theorem dX4_commonDivisor_27 : decode cX4_commonDivisor 27 = .ok (.ireturn, 1) := by decide +kernel
theorem dX4_readText_0 : decode cX4_readText 0 = .ok (.aload_n 0, 1) := by decide +kernel
theorem dX4_readText_1 : decode cX4_readText 1 = .ok (.getfield 16, 3) := by decide +kernel
theorem dX4_readText_4 : decode cX4_readText 4 = .ok (.invokevirtual 265, 3) := by decide +kernel
theorem dX4_readText_7 : decode cX4_readText 7 = .ok (.iconst 0, 1) := by decide +kernel
theorem dX4_readText_8 : decode cX4_readText 8 = .ok (.istore_n 1, 1) := by decide +kernel
theorem dX4_readText_9 : decode cX4_readText 9 = .ok (.iload_n 1, 1) := by decide +kernel
theorem dX4_readText_10 : decode cX4_readText 10 = .ok (.aload_n 0, 1) := by decide +kernel
theorem dX4_readText_11 : decode cX4_readText 11 = .ok (.getfield 63, 3) := by decide +kernel
theorem dX4_readText_14 : decode cX4_readText 14 = .ok (.if_icmp .ge 27, 3) := by decide +kernel
theorem dX4_readText_17 : decode cX4_readText 17 = .ok (.aload_n 0, 1) := by decide +kernel
theorem dX4_readText_18 : decode cX4_readText 18 = .ok (.getfield 16, 3) := by decide +kernel
theorem dX4_readText_21 : decode cX4_readText 21 = .ok (.aload_n 0, 1) := by decide +kernel
theorem dX4_readText_22 : decode cX4_readText 22 = .ok (.getfield 9, 3) := by decide +kernel
theorem dX4_readText_25 : decode cX4_readText 25 = .ok (.iload_n 1, 1) := by decide +kernel
theorem dX4_readText_26 : decode cX4_readText 26 = .ok (.iaload, 1) := by decide +kernel
theorem dX4_readText_27 : decode cX4_readText 27 = .ok (.invokevirtual 268, 3) := by decide +kernel
theorem dX4_readText_30 : decode cX4_readText 30 = .ok (.ifCond .ne 5, 3) := by decide +kernel
theorem dX4_readText_33 : decode cX4_readText 33 = .ok (.iload_n 1, 1) := by decide +kernel
theorem dX4_readText_34 : decode cX4_readText 34 = .ok (.ireturn, 1) := by decide +kernel
theorem dX4_readText_35 : decode cX4_readText 35 = .ok (.iinc 1 1, 3) := by decide +kernel
theorem dX4_readText_38 : decode cX4_readText 38 = .ok (.goto (-29), 3) := by decide +kernel
theorem dX4_readText_41 : decode cX4_readText 41 = .ok (.aload_n 0, 1) := by decide +kernel
theorem dX4_readText_42 : decode cX4_readText 42 = .ok (.getfield 16, 3) := by decide +kernel
theorem dX4_readText_45 : decode cX4_readText 45 = .ok (.invokevirtual 271, 3) := by decide +kernel
theorem dX4_readText_48 : decode cX4_readText 48 = .ok (.ifCond .eq 8, 3) := by decide +kernel
theorem dX4_readText_51 : decode cX4_readText 51 = .ok (.bipush (-9), 2) := by decide +kernel
theorem dX4_readText_53 : decode cX4_readText 53 = .ok (.goto 7, 3) := by decide +kernel
theorem dX4_readText_56 : decode cX4_readText 56 = .ok (.aload_n 0, 1) := by decide +kernel
theorem dX4_readText_57 : decode cX4_readText 57 = .ok (.getfield 63, 3) := by decide +kernel
theorem dX4_readText_60 : decode cX4_readText 60 = .ok (.ireturn, 1) := by decide +kernel
theorem dX4_rememberAct_0 : decode cX4_rememberAct 0 = .ok (.aload_n 0, 1) := by decide +kernel
theorem dX4_rememberAct_1 : decode cX4_rememberAct 1 = .ok (.getfield 39, 3) := by decide +kernel
theorem dX4_rememberAct_4 : decode cX4_rememberAct 4 = .ok (.aload_n 0, 1) := by decide +kernel
theorem dX4_rememberAct_5 : decode cX4_rememberAct 5 = .ok (.getfield 193, 3) := by decide +kernel
theorem dX4_rememberAct_8 : decode cX4_rememberAct 8 = .ok (.aaload, 1) := by decide +kernel
theorem dX4_rememberAct_9 : decode cX4_rememberAct 9 = .ok (.aload_n 0, 1) := by decide +kernel
theorem dX4_rememberAct_10 : decode cX4_rememberAct 10 = .ok (.getfield 32, 3) := by decide +kernel
theorem dX4_rememberAct_13 : decode cX4_rememberAct 13 = .ok (.invokevirtual 78, 3) := by decide +kernel
theorem dX4_rememberAct_16 : decode cX4_rememberAct 16 = .ok (.aload_n 0, 1) := by decide +kernel
theorem dX4_rememberAct_17 : decode cX4_rememberAct 17 = .ok (.aload_n 0, 1) := by decide +kernel
theorem dX4_rememberAct_18 : decode cX4_rememberAct 18 = .ok (.getfield 193, 3) := by decide +kernel
theorem dX4_rememberAct_21 : decode cX4_rememberAct 21 = .ok (.iconst 1, 1) := by decide +kernel
theorem dX4_rememberAct_22 : decode cX4_rememberAct 22 = .ok (.iadd, 1) := by decide +kernel
theorem dX4_rememberAct_23 : decode cX4_rememberAct 23 = .ok (.bipush 14, 2) := by decide +kernel
theorem dX4_rememberAct_25 : decode cX4_rememberAct 25 = .ok (.irem, 1) := by decide +kernel
theorem dX4_rememberAct_26 : decode cX4_rememberAct 26 = .ok (.putfield 193, 3) := by decide +kernel
theorem dX4_rememberAct_29 : decode cX4_rememberAct 29 = .ok (.aload_n 0, 1) := by decide +kernel
theorem dX4_rememberAct_30 : decode cX4_rememberAct 30 = .ok (.bipush 14, 2) := by decide +kernel
theorem dX4_rememberAct_32 : decode cX4_rememberAct 32 = .ok (.aload_n 0, 1) := by decide +kernel
theorem dX4_rememberAct_33 : decode cX4_rememberAct 33 = .ok (.getfield 99, 3) := by decide +kernel
theorem dX4_rememberAct_36 : decode cX4_rememberAct 36 = .ok (.iconst 1, 1) := by decide +kernel
theorem dX4_rememberAct_37 : decode cX4_rememberAct 37 = .ok (.iadd, 1) := by decide +kernel
theorem dX4_rememberAct_38 : decode cX4_rememberAct 38 = .ok (.invokestatic 256, 3) := by decide +kernel
theorem dX4_rememberAct_41 : decode cX4_rememberAct 41 = .ok (.putfield 99, 3) := by decide +kernel
theorem dX4_rememberAct_44 : decode cX4_rememberAct 44 = .ok (.return_, 1) := by decide +kernel
theorem dX4_forgetActs_0 : decode cX4_forgetActs 0 = .ok (.aload_n 0, 1) := by decide +kernel
theorem dX4_forgetActs_1 : decode cX4_forgetActs 1 = .ok (.iconst 0, 1) := by decide +kernel
theorem dX4_forgetActs_2 : decode cX4_forgetActs 2 = .ok (.putfield 99, 3) := by decide +kernel
theorem dX4_forgetActs_5 : decode cX4_forgetActs 5 = .ok (.return_, 1) := by decide +kernel
theorem dX4_wayInNextStep_0 : decode cX4_wayInNextStep 0 = .ok (.iload_n 1, 1) := by decide +kernel
theorem dX4_wayInNextStep_1 : decode cX4_wayInNextStep 1 = .ok (.aload_n 0, 1) := by decide +kernel
theorem dX4_wayInNextStep_2 : decode cX4_wayInNextStep 2 = .ok (.getfield 23, 3) := by decide +kernel
theorem dX4_wayInNextStep_5 : decode cX4_wayInNextStep 5 = .ok (.getfield 87, 3) := by decide +kernel
theorem dX4_wayInNextStep_8 : decode cX4_wayInNextStep 8 = .ok (.iconst 1, 1) := by decide +kernel
theorem dX4_wayInNextStep_9 : decode cX4_wayInNextStep 9 = .ok (.isub, 1) := by decide +kernel
theorem dX4_wayInNextStep_10 : decode cX4_wayInNextStep 10 = .ok (.if_icmp .lt 36, 3) := by decide +kernel
theorem dX4_wayInNextStep_13 : decode cX4_wayInNextStep 13 = .ok (.aload_n 0, 1) := by decide +kernel
theorem dX4_wayInNextStep_14 : decode cX4_wayInNextStep 14 = .ok (.getfield 23, 3) := by decide +kernel
theorem dX4_wayInNextStep_17 : decode cX4_wayInNextStep 17 = .ok (.aload_n 0, 1) := by decide +kernel
theorem dX4_wayInNextStep_18 : decode cX4_wayInNextStep 18 = .ok (.getfield 36, 3) := by decide +kernel
theorem dX4_wayInNextStep_21 : decode cX4_wayInNextStep 21 = .ok (.getfield 116, 3) := by decide +kernel
theorem dX4_wayInNextStep_24 : decode cX4_wayInNextStep 24 = .ok (.aload_n 0, 1) := by decide +kernel
theorem dX4_wayInNextStep_25 : decode cX4_wayInNextStep 25 = .ok (.getfield 23, 3) := by decide +kernel
theorem dX4_wayInNextStep_28 : decode cX4_wayInNextStep 28 = .ok (.getfield 87, 3) := by decide +kernel
theorem dX4_wayInNextStep_31 : decode cX4_wayInNextStep 31 = .ok (.iconst 1, 1) := by decide +kernel
theorem dX4_wayInNextStep_32 : decode cX4_wayInNextStep 32 = .ok (.isub, 1) := by decide +kernel
theorem dX4_wayInNextStep_33 : decode cX4_wayInNextStep 33 = .ok (.iaload, 1) := by decide +kernel
theorem dX4_wayInNextStep_34 : decode cX4_wayInNextStep 34 = .ok (.invokevirtual 138, 3) := by decide +kernel
theorem dX4_wayInNextStep_37 : decode cX4_wayInNextStep 37 = .ok (.ifCond .eq 7, 3) := by decide +kernel
theorem dX4_wayInNextStep_40 : decode cX4_wayInNextStep 40 = .ok (.iconst 1, 1) := by decide +kernel
theorem dX4_wayInNextStep_41 : decode cX4_wayInNextStep 41 = .ok (.goto 4, 3) := by decide +kernel
theorem dX4_wayInNextStep_44 : decode cX4_wayInNextStep 44 = .ok (.iconst 2, 1) := by decide +kernel
theorem dX4_wayInNextStep_45 : decode cX4_wayInNextStep 45 = .ok (.ireturn, 1) := by decide +kernel
theorem dX4_wayInNextStep_46 : decode cX4_wayInNextStep 46 = .ok (.aload_n 0, 1) := by decide +kernel
theorem dX4_wayInNextStep_47 : decode cX4_wayInNextStep 47 = .ok (.getfield 36, 3) := by decide +kernel
theorem dX4_wayInNextStep_50 : decode cX4_wayInNextStep 50 = .ok (.getfield 233, 3) := by decide +kernel
theorem dX4_wayInNextStep_53 : decode cX4_wayInNextStep 53 = .ok (.istore_n 2, 1) := by decide +kernel
theorem dX4_wayInNextStep_54 : decode cX4_wayInNextStep 54 = .ok (.aload_n 0, 1) := by decide +kernel
theorem dX4_wayInNextStep_55 : decode cX4_wayInNextStep 55 = .ok (.getfield 36, 3) := by decide +kernel
theorem dX4_wayInNextStep_58 : decode cX4_wayInNextStep 58 = .ok (.getfield 236, 3) := by decide +kernel
theorem dX4_wayInNextStep_61 : decode cX4_wayInNextStep 61 = .ok (.istore_n 3, 1) := by decide +kernel
theorem dX4_wayInNextStep_62 : decode cX4_wayInNextStep 62 = .ok (.aload_n 0, 1) := by decide +kernel
theorem dX4_wayInNextStep_63 : decode cX4_wayInNextStep 63 = .ok (.getfield 36, 3) := by decide +kernel
theorem dX4_wayInNextStep_66 : decode cX4_wayInNextStep 66 = .ok (.iconst 1, 1) := by decide +kernel
theorem dX4_wayInNextStep_67 : decode cX4_wayInNextStep 67 = .ok (.invokevirtual 163, 3) := by decide +kernel
theorem dX4_wayInNextStep_70 : decode cX4_wayInNextStep 70 = .ok (.pop, 1) := by decide +kernel
theorem dX4_wayInNextStep_71 : decode cX4_wayInNextStep 71 = .ok (.iload_n 1, 1) := by decide +kernel
theorem dX4_wayInNextStep_72 : decode cX4_wayInNextStep 72 = .ok (.iconst 1, 1) := by decide +kernel
theorem dX4_wayInNextStep_73 : decode cX4_wayInNextStep 73 = .ok (.iadd, 1) := by decide +kernel
theorem dX4_wayInNextStep_74 : decode cX4_wayInNextStep 74 = .ok (.aload_n 0, 1) := by decide +kernel
theorem dX4_wayInNextStep_75 : decode cX4_wayInNextStep 75 = .ok (.getfield 23, 3) := by decide +kernel
theorem dX4_wayInNextStep_78 : decode cX4_wayInNextStep 78 = .ok (.getfield 109, 3) := by decide +kernel
theorem dX4_wayInNextStep_81 : decode cX4_wayInNextStep 81 = .ok (.iconst 4, 1) := by decide +kernel
theorem dX4_wayInNextStep_82 : decode cX4_wayInNextStep 82 = .ok (.iaload, 1) := by decide +kernel
theorem dX4_wayInNextStep_83 : decode cX4_wayInNextStep 83 = .ok (.if_icmp .eq 6, 3) := by decide +kernel
theorem dX4_wayInNextStep_86 : decode cX4_wayInNextStep 86 = .ok (.bipush (-9), 2) := by decide +kernel
theorem dX4_wayInNextStep_88 : decode cX4_wayInNextStep 88 = .ok (.ireturn, 1) := by decide +kernel
theorem dX4_wayInNextStep_89 : decode cX4_wayInNextStep 89 = .ok (.aload_n 0, 1) := by decide +kernel
theorem dX4_wayInNextStep_90 : decode cX4_wayInNextStep 90 = .ok (.getfield 36, 3) := by decide +kernel
theorem dX4_wayInNextStep_93 : decode cX4_wayInNextStep 93 = .ok (.getfield 233, 3) := by decide +kernel
theorem dX4_wayInNextStep_96 : decode cX4_wayInNextStep 96 = .ok (.iload_n 2, 1) := by decide +kernel
theorem dX4_wayInNextStep_97 : decode cX4_wayInNextStep 97 = .ok (.if_icmp .le 5, 3) := by decide +kernel
theorem dX4_wayInNextStep_100 : decode cX4_wayInNextStep 100 = .ok (.iconst 3, 1) := by decide +kernel
theorem dX4_wayInNextStep_101 : decode cX4_wayInNextStep 101 = .ok (.ireturn, 1) := by decide +kernel
theorem dX4_wayInNextStep_102 : decode cX4_wayInNextStep 102 = .ok (.aload_n 0, 1) := by decide +kernel
theorem dX4_wayInNextStep_103 : decode cX4_wayInNextStep 103 = .ok (.getfield 36, 3) := by decide +kernel
theorem dX4_wayInNextStep_106 : decode cX4_wayInNextStep 106 = .ok (.getfield 236, 3) := by decide +kernel
theorem dX4_wayInNextStep_109 : decode cX4_wayInNextStep 109 = .ok (.iload_n 3, 1) := by decide +kernel
theorem dX4_wayInNextStep_110 : decode cX4_wayInNextStep 110 = .ok (.if_icmp .le 7, 3) := by decide +kernel
theorem dX4_wayInNextStep_113 : decode cX4_wayInNextStep 113 = .ok (.iconst 4, 1) := by decide +kernel
theorem dX4_wayInNextStep_114 : decode cX4_wayInNextStep 114 = .ok (.goto 5, 3) := by decide +kernel
theorem dX4_wayInNextStep_117 : decode cX4_wayInNextStep 117 = .ok (.bipush (-9), 2) := by decide +kernel
theorem dX4_wayInNextStep_119 : decode cX4_wayInNextStep 119 = .ok (.ireturn, 1) := by decide +kernel
theorem dX4_outWithMore_0 : decode cX4_outWithMore 0 = .ok (.aload_n 0, 1) := by decide +kernel
theorem dX4_outWithMore_1 : decode cX4_outWithMore 1 = .ok (.getfield 36, 3) := by decide +kernel
theorem dX4_outWithMore_4 : decode cX4_outWithMore 4 = .ok (.aload_n 0, 1) := by decide +kernel
theorem dX4_outWithMore_5 : decode cX4_outWithMore 5 = .ok (.getfield 32, 3) := by decide +kernel
theorem dX4_outWithMore_8 : decode cX4_outWithMore 8 = .ok (.invokevirtual 78, 3) := by decide +kernel
theorem dX4_outWithMore_11 : decode cX4_outWithMore 11 = .ok (.aload_n 0, 1) := by decide +kernel
theorem dX4_outWithMore_12 : decode cX4_outWithMore 12 = .ok (.getfield 36, 3) := by decide +kernel
theorem dX4_outWithMore_15 : decode cX4_outWithMore 15 = .ok (.iload_n 1, 1) := by decide +kernel
theorem dX4_outWithMore_16 : decode cX4_outWithMore 16 = .ok (.iload_n 2, 1) := by decide +kernel
theorem dX4_outWithMore_17 : decode cX4_outWithMore 17 = .ok (.invokevirtual 185, 3) := by decide +kernel
theorem dX4_outWithMore_20 : decode cX4_outWithMore 20 = .ok (.aload_n 0, 1) := by decide +kernel
theorem dX4_outWithMore_21 : decode cX4_outWithMore 21 = .ok (.getfield 36, 3) := by decide +kernel
theorem dX4_outWithMore_24 : decode cX4_outWithMore 24 = .ok (.bipush 40, 2) := by decide +kernel
theorem dX4_outWithMore_26 : decode cX4_outWithMore 26 = .ok (.invokevirtual 163, 3) := by decide +kernel
theorem dX4_outWithMore_29 : decode cX4_outWithMore 29 = .ok (.pop, 1) := by decide +kernel
theorem dX4_outWithMore_30 : decode cX4_outWithMore 30 = .ok (.aload_n 0, 1) := by decide +kernel
theorem dX4_outWithMore_31 : decode cX4_outWithMore 31 = .ok (.getfield 36, 3) := by decide +kernel
theorem dX4_outWithMore_34 : decode cX4_outWithMore 34 = .ok (.getfield 199, 3) := by decide +kernel
theorem dX4_outWithMore_37 : decode cX4_outWithMore 37 = .ok (.ireturn, 1) := by decide +kernel
theorem dX4_outWithOff_0 : decode cX4_outWithOff 0 = .ok (.aload_n 0, 1) := by decide +kernel
theorem dX4_outWithOff_1 : decode cX4_outWithOff 1 = .ok (.getfield 36, 3) := by decide +kernel
theorem dX4_outWithOff_4 : decode cX4_outWithOff 4 = .ok (.aload_n 0, 1) := by decide +kernel
theorem dX4_outWithOff_5 : decode cX4_outWithOff 5 = .ok (.getfield 32, 3) := by decide +kernel
theorem dX4_outWithOff_8 : decode cX4_outWithOff 8 = .ok (.invokevirtual 78, 3) := by decide +kernel
theorem dX4_outWithOff_11 : decode cX4_outWithOff 11 = .ok (.aload_n 0, 1) := by decide +kernel
theorem dX4_outWithOff_12 : decode cX4_outWithOff 12 = .ok (.getfield 36, 3) := by decide +kernel
theorem dX4_outWithOff_15 : decode cX4_outWithOff 15 = .ok (.iload_n 1, 1) := by decide +kernel
theorem dX4_outWithOff_16 : decode cX4_outWithOff 16 = .ok (.putfield 274, 3) := by decide +kernel
theorem dX4_outWithOff_19 : decode cX4_outWithOff 19 = .ok (.aload_n 0, 1) := by decide +kernel
theorem dX4_outWithOff_20 : decode cX4_outWithOff 20 = .ok (.getfield 36, 3) := by decide +kernel
theorem dX4_outWithOff_23 : decode cX4_outWithOff 23 = .ok (.bipush 30, 2) := by decide +kernel
theorem dX4_outWithOff_25 : decode cX4_outWithOff 25 = .ok (.invokevirtual 163, 3) := by decide +kernel
theorem dX4_outWithOff_28 : decode cX4_outWithOff 28 = .ok (.pop, 1) := by decide +kernel
theorem dX4_outWithOff_29 : decode cX4_outWithOff 29 = .ok (.aload_n 0, 1) := by decide +kernel
theorem dX4_outWithOff_30 : decode cX4_outWithOff 30 = .ok (.getfield 36, 3) := by decide +kernel
theorem dX4_outWithOff_33 : decode cX4_outWithOff 33 = .ok (.getfield 199, 3) := by decide +kernel
theorem dX4_outWithOff_36 : decode cX4_outWithOff 36 = .ok (.ireturn, 1) := by decide +kernel
theorem dX4_obeys_0 : decode cX4_obeys 0 = .ok (.iload_n 1, 1) := by decide +kernel
theorem dX4_obeys_1 : decode cX4_obeys 1 = .ok (.bipush 10, 2) := by decide +kernel
theorem dX4_obeys_3 : decode cX4_obeys 3 = .ok (.idiv, 1) := by decide +kernel
theorem dX4_obeys_4 : decode cX4_obeys 4 = .ok (.bipush 10, 2) := by decide +kernel
theorem dX4_obeys_6 : decode cX4_obeys 6 = .ok (.irem, 1) := by decide +kernel
theorem dX4_obeys_7 : decode cX4_obeys 7 = .ok (.istore_n 2, 1) := by decide +kernel
theorem dX4_obeys_8 : decode cX4_obeys 8 = .ok (.iload_n 1, 1) := by decide +kernel
theorem dX4_obeys_9 : decode cX4_obeys 9 = .ok (.bipush 10, 2) := by decide +kernel
theorem dX4_obeys_11 : decode cX4_obeys 11 = .ok (.irem, 1) := by decide +kernel
theorem dX4_obeys_12 : decode cX4_obeys 12 = .ok (.istore_n 3, 1) := by decide +kernel
theorem dX4_obeys_13 : decode cX4_obeys 13 = .ok (.iload_n 1, 1) := by decide +kernel
theorem dX4_obeys_14 : decode cX4_obeys 14 = .ok (.bipush 100, 2) := by decide +kernel
theorem dX4_obeys_16 : decode cX4_obeys 16 = .ok (.irem, 1) := by decide +kernel
theorem dX4_obeys_17 : decode cX4_obeys 17 = .ok (.istore 4, 2) := by decide +kernel
theorem dX4_obeys_19 : decode cX4_obeys 19 = .ok (.iload_n 1, 1) := by decide +kernel
theorem dX4_obeys_20 : decode cX4_obeys 20 = .ok (.bipush 100, 2) := by decide +kernel
theorem dX4_obeys_22 : decode cX4_obeys 22 = .ok (.idiv, 1) := by decide +kernel
theorem dX4_obeys_23 : decode cX4_obeys 23 = .ok (.tableswitch 240 1 9 #[49, 75, 75, 75, 75, 97, 129, 147, 177], 49) := by decide +kernel
theorem dX4_obeys_72 : decode cX4_obeys 72 = .ok (.iload 4, 2) := by decide +kernel
theorem dX4_obeys_74 : decode cX4_obeys 74 = .ok (.iconst 1, 1) := by decide +kernel
theorem dX4_obeys_75 : decode cX4_obeys 75 = .ok (.if_icmp .lt 21, 3) := by decide +kernel
theorem dX4_obeys_78 : decode cX4_obeys 78 = .ok (.aload_n 0, 1) := by decide +kernel
theorem dX4_obeys_79 : decode cX4_obeys 79 = .ok (.getfield 36, 3) := by decide +kernel
theorem dX4_obeys_82 : decode cX4_obeys 82 = .ok (.iload 4, 2) := by decide +kernel
theorem dX4_obeys_84 : decode cX4_obeys 84 = .ok (.invokevirtual 163, 3) := by decide +kernel
theorem dX4_obeys_87 : decode cX4_obeys 87 = .ok (.iload 4, 2) := by decide +kernel
theorem dX4_obeys_89 : decode cX4_obeys 89 = .ok (.if_icmp .ne 7, 3) := by decide +kernel
theorem dX4_obeys_92 : decode cX4_obeys 92 = .ok (.iconst 1, 1) := by decide +kernel
theorem dX4_obeys_93 : decode cX4_obeys 93 = .ok (.goto 4, 3) := by decide +kernel
theorem dX4_obeys_96 : decode cX4_obeys 96 = .ok (.iconst 0, 1) := by decide +kernel
theorem dX4_obeys_97 : decode cX4_obeys 97 = .ok (.ireturn, 1) := by decide +kernel
theorem dX4_obeys_98 : decode cX4_obeys 98 = .ok (.iload 4, 2) := by decide +kernel
theorem dX4_obeys_100 : decode cX4_obeys 100 = .ok (.ifCond .ne 18, 3) := by decide +kernel
theorem dX4_obeys_103 : decode cX4_obeys 103 = .ok (.aload_n 0, 1) := by decide +kernel
theorem dX4_obeys_104 : decode cX4_obeys 104 = .ok (.iload_n 1, 1) := by decide +kernel
theorem dX4_obeys_105 : decode cX4_obeys 105 = .ok (.bipush 100, 2) := by decide +kernel
theorem dX4_obeys_107 : decode cX4_obeys 107 = .ok (.idiv, 1) := by decide +kernel
theorem dX4_obeys_108 : decode cX4_obeys 108 = .ok (.invokevirtual 277, 3) := by decide +kernel
theorem dX4_obeys_111 : decode cX4_obeys 111 = .ok (.ifCond .eq 7, 3) := by decide +kernel
theorem dX4_obeys_114 : decode cX4_obeys 114 = .ok (.iconst 1, 1) := by decide +kernel
theorem dX4_obeys_115 : decode cX4_obeys 115 = .ok (.goto 4, 3) := by decide +kernel
theorem dX4_obeys_118 : decode cX4_obeys 118 = .ok (.iconst 0, 1) := by decide +kernel
theorem dX4_obeys_119 : decode cX4_obeys 119 = .ok (.ireturn, 1) := by decide +kernel
theorem dX4_obeys_120 : decode cX4_obeys 120 = .ok (.iload_n 3, 1) := by decide +kernel
theorem dX4_obeys_121 : decode cX4_obeys 121 = .ok (.ifCond .ne 29, 3) := by decide +kernel
theorem dX4_obeys_124 : decode cX4_obeys 124 = .ok (.aload_n 0, 1) := by decide +kernel
theorem dX4_obeys_125 : decode cX4_obeys 125 = .ok (.getfield 23, 3) := by decide +kernel
theorem dX4_obeys_128 : decode cX4_obeys 128 = .ok (.iload_n 2, 1) := by decide +kernel
theorem dX4_obeys_129 : decode cX4_obeys 129 = .ok (.invokevirtual 141, 3) := by decide +kernel
theorem dX4_obeys_132 : decode cX4_obeys 132 = .ok (.ifCond .eq 18, 3) := by decide +kernel
theorem dX4_obeys_135 : decode cX4_obeys 135 = .ok (.aload_n 0, 1) := by decide +kernel
theorem dX4_obeys_136 : decode cX4_obeys 136 = .ok (.getfield 36, 3) := by decide +kernel
theorem dX4_obeys_139 : decode cX4_obeys 139 = .ok (.invokevirtual 280, 3) := by decide +kernel
theorem dX4_obeys_142 : decode cX4_obeys 142 = .ok (.iload_n 2, 1) := by decide +kernel
theorem dX4_obeys_143 : decode cX4_obeys 143 = .ok (.if_icmp .ne 7, 3) := by decide +kernel
theorem dX4_obeys_146 : decode cX4_obeys 146 = .ok (.iconst 1, 1) := by decide +kernel
theorem dX4_obeys_147 : decode cX4_obeys 147 = .ok (.goto 4, 3) := by decide +kernel
theorem dX4_obeys_150 : decode cX4_obeys 150 = .ok (.iconst 0, 1) := by decide +kernel
theorem dX4_obeys_151 : decode cX4_obeys 151 = .ok (.ireturn, 1) := by decide +kernel
theorem dX4_obeys_152 : decode cX4_obeys 152 = .ok (.aload_n 0, 1) := by decide +kernel
theorem dX4_obeys_153 : decode cX4_obeys 153 = .ok (.getfield 36, 3) := by decide +kernel
theorem dX4_obeys_156 : decode cX4_obeys 156 = .ok (.getfield 199, 3) := by decide +kernel
theorem dX4_obeys_159 : decode cX4_obeys 159 = .ok (.iload 4, 2) := by decide +kernel
theorem dX4_obeys_161 : decode cX4_obeys 161 = .ok (.if_icmp .ne 7, 3) := by decide +kernel
theorem dX4_obeys_164 : decode cX4_obeys 164 = .ok (.iconst 1, 1) := by decide +kernel
theorem dX4_obeys_165 : decode cX4_obeys 165 = .ok (.goto 4, 3) := by decide +kernel
theorem dX4_obeys_168 : decode cX4_obeys 168 = .ok (.iconst 0, 1) := by decide +kernel
theorem dX4_obeys_169 : decode cX4_obeys 169 = .ok (.ireturn, 1) := by decide +kernel
theorem dX4_obeys_170 : decode cX4_obeys 170 = .ok (.aload_n 0, 1) := by decide +kernel
theorem dX4_obeys_171 : decode cX4_obeys 171 = .ok (.getfield 23, 3) := by decide +kernel
theorem dX4_obeys_174 : decode cX4_obeys 174 = .ok (.iload_n 2, 1) := by decide +kernel
theorem dX4_obeys_175 : decode cX4_obeys 175 = .ok (.invokevirtual 112, 3) := by decide +kernel
theorem dX4_obeys_178 : decode cX4_obeys 178 = .ok (.ifCond .eq 20, 3) := by decide +kernel
theorem dX4_obeys_181 : decode cX4_obeys 181 = .ok (.aload_n 0, 1) := by decide +kernel
theorem dX4_obeys_182 : decode cX4_obeys 182 = .ok (.getfield 36, 3) := by decide +kernel
theorem dX4_obeys_185 : decode cX4_obeys 185 = .ok (.getfield 119, 3) := by decide +kernel
theorem dX4_obeys_188 : decode cX4_obeys 188 = .ok (.iload_n 2, 1) := by decide +kernel
theorem dX4_obeys_189 : decode cX4_obeys 189 = .ok (.iaload, 1) := by decide +kernel
theorem dX4_obeys_190 : decode cX4_obeys 190 = .ok (.iload_n 3, 1) := by decide +kernel
theorem dX4_obeys_191 : decode cX4_obeys 191 = .ok (.if_icmp .ne 7, 3) := by decide +kernel
theorem dX4_obeys_194 : decode cX4_obeys 194 = .ok (.iconst 1, 1) := by decide +kernel
theorem dX4_obeys_195 : decode cX4_obeys 195 = .ok (.goto 4, 3) := by decide +kernel
theorem dX4_obeys_198 : decode cX4_obeys 198 = .ok (.iconst 0, 1) := by decide +kernel
theorem dX4_obeys_199 : decode cX4_obeys 199 = .ok (.ireturn, 1) := by decide +kernel
theorem dX4_obeys_200 : decode cX4_obeys 200 = .ok (.iload_n 3, 1) := by decide +kernel
theorem dX4_obeys_201 : decode cX4_obeys 201 = .ok (.iconst 1, 1) := by decide +kernel
theorem dX4_obeys_202 : decode cX4_obeys 202 = .ok (.if_icmp .gt 59, 3) := by decide +kernel
theorem dX4_obeys_205 : decode cX4_obeys 205 = .ok (.aload_n 0, 1) := by decide +kernel
theorem dX4_obeys_206 : decode cX4_obeys 206 = .ok (.getfield 23, 3) := by decide +kernel
theorem dX4_obeys_209 : decode cX4_obeys 209 = .ok (.iload_n 2, 1) := by decide +kernel
theorem dX4_obeys_210 : decode cX4_obeys 210 = .ok (.invokevirtual 112, 3) := by decide +kernel
theorem dX4_obeys_213 : decode cX4_obeys 213 = .ok (.ifCond .eq 48, 3) := by decide +kernel
theorem dX4_obeys_216 : decode cX4_obeys 216 = .ok (.aload_n 0, 1) := by decide +kernel
theorem dX4_obeys_217 : decode cX4_obeys 217 = .ok (.getfield 36, 3) := by decide +kernel
theorem dX4_obeys_220 : decode cX4_obeys 220 = .ok (.getfield 116, 3) := by decide +kernel
theorem dX4_obeys_223 : decode cX4_obeys 223 = .ok (.iload_n 2, 1) := by decide +kernel
theorem dX4_obeys_224 : decode cX4_obeys 224 = .ok (.iaload, 1) := by decide +kernel
theorem dX4_obeys_225 : decode cX4_obeys 225 = .ok (.ifCond .eq 36, 3) := by decide +kernel
theorem dX4_obeys_228 : decode cX4_obeys 228 = .ok (.aload_n 0, 1) := by decide +kernel
theorem dX4_obeys_229 : decode cX4_obeys 229 = .ok (.getfield 23, 3) := by decide +kernel
theorem dX4_obeys_232 : decode cX4_obeys 232 = .ok (.aload_n 0, 1) := by decide +kernel
theorem dX4_obeys_233 : decode cX4_obeys 233 = .ok (.getfield 36, 3) := by decide +kernel
theorem dX4_obeys_236 : decode cX4_obeys 236 = .ok (.getfield 116, 3) := by decide +kernel
theorem dX4_obeys_239 : decode cX4_obeys 239 = .ok (.iload_n 2, 1) := by decide +kernel
theorem dX4_obeys_240 : decode cX4_obeys 240 = .ok (.iaload, 1) := by decide +kernel
theorem dX4_obeys_241 : decode cX4_obeys 241 = .ok (.invokevirtual 138, 3) := by decide +kernel
theorem dX4_obeys_244 : decode cX4_obeys 244 = .ok (.iload_n 3, 1) := by decide +kernel
theorem dX4_obeys_245 : decode cX4_obeys 245 = .ok (.iconst 1, 1) := by decide +kernel
theorem dX4_obeys_246 : decode cX4_obeys 246 = .ok (.if_icmp .ne 7, 3) := by decide +kernel
theorem dX4_obeys_249 : decode cX4_obeys 249 = .ok (.iconst 1, 1) := by decide +kernel
theorem dX4_obeys_250 : decode cX4_obeys 250 = .ok (.goto 4, 3) := by decide +kernel
theorem dX4_obeys_253 : decode cX4_obeys 253 = .ok (.iconst 0, 1) := by decide +kernel
theorem dX4_obeys_254 : decode cX4_obeys 254 = .ok (.if_icmp .ne 7, 3) := by decide +kernel
theorem dX4_obeys_257 : decode cX4_obeys 257 = .ok (.iconst 1, 1) := by decide +kernel
theorem dX4_obeys_258 : decode cX4_obeys 258 = .ok (.goto 4, 3) := by decide +kernel
theorem dX4_obeys_261 : decode cX4_obeys 261 = .ok (.iconst 0, 1) := by decide +kernel
theorem dX4_obeys_262 : decode cX4_obeys 262 = .ok (.ireturn, 1) := by decide +kernel
theorem dX4_obeys_263 : decode cX4_obeys 263 = .ok (.iconst 0, 1) := by decide +kernel
theorem dX4_obeys_264 : decode cX4_obeys 264 = .ok (.ireturn, 1) := by decide +kernel
theorem dX4_intervenes_0 : decode cX4_intervenes 0 = .ok (.iload_n 1, 1) := by decide +kernel
theorem dX4_intervenes_1 : decode cX4_intervenes 1 = .ok (.tableswitch 82 2 4 #[27, 36, 60], 27) := by decide +kernel
theorem dX4_intervenes_28 : decode cX4_intervenes 28 = .ok (.aload_n 0, 1) := by decide +kernel
theorem dX4_intervenes_29 : decode cX4_intervenes 29 = .ok (.getfield 36, 3) := by decide +kernel
theorem dX4_intervenes_32 : decode cX4_intervenes 32 = .ok (.invokevirtual 166, 3) := by decide +kernel
theorem dX4_intervenes_35 : decode cX4_intervenes 35 = .ok (.iconst 1, 1) := by decide +kernel
theorem dX4_intervenes_36 : decode cX4_intervenes 36 = .ok (.ireturn, 1) := by decide +kernel
theorem dX4_intervenes_37 : decode cX4_intervenes 37 = .ok (.aload_n 0, 1) := by decide +kernel
theorem dX4_intervenes_38 : decode cX4_intervenes 38 = .ok (.getfield 36, 3) := by decide +kernel
theorem dX4_intervenes_41 : decode cX4_intervenes 41 = .ok (.aload_n 0, 1) := by decide +kernel
theorem dX4_intervenes_42 : decode cX4_intervenes 42 = .ok (.getfield 36, 3) := by decide +kernel
theorem dX4_intervenes_45 : decode cX4_intervenes 45 = .ok (.getfield 172, 3) := by decide +kernel
theorem dX4_intervenes_48 : decode cX4_intervenes 48 = .ok (.ifCond .ne 7, 3) := by decide +kernel
theorem dX4_intervenes_51 : decode cX4_intervenes 51 = .ok (.iconst 1, 1) := by decide +kernel
theorem dX4_intervenes_52 : decode cX4_intervenes 52 = .ok (.goto 4, 3) := by decide +kernel
theorem dX4_intervenes_55 : decode cX4_intervenes 55 = .ok (.iconst 0, 1) := by decide +kernel
theorem dX4_intervenes_56 : decode cX4_intervenes 56 = .ok (.putfield 172, 3) := by decide +kernel
theorem dX4_intervenes_59 : decode cX4_intervenes 59 = .ok (.iconst 1, 1) := by decide +kernel
theorem dX4_intervenes_60 : decode cX4_intervenes 60 = .ok (.ireturn, 1) := by decide +kernel
theorem dX4_intervenes_61 : decode cX4_intervenes 61 = .ok (.aload_n 0, 1) := by decide +kernel
theorem dX4_intervenes_62 : decode cX4_intervenes 62 = .ok (.getfield 36, 3) := by decide +kernel
theorem dX4_intervenes_65 : decode cX4_intervenes 65 = .ok (.getfield 156, 3) := by decide +kernel
theorem dX4_intervenes_68 : decode cX4_intervenes 68 = .ok (.ifCond .ne 5, 3) := by decide +kernel
theorem dX4_intervenes_71 : decode cX4_intervenes 71 = .ok (.iconst 0, 1) := by decide +kernel
theorem dX4_intervenes_72 : decode cX4_intervenes 72 = .ok (.ireturn, 1) := by decide +kernel
theorem dX4_intervenes_73 : decode cX4_intervenes 73 = .ok (.aload_n 0, 1) := by decide +kernel
theorem dX4_intervenes_74 : decode cX4_intervenes 74 = .ok (.getfield 36, 3) := by decide +kernel
theorem dX4_intervenes_77 : decode cX4_intervenes 77 = .ok (.invokevirtual 175, 3) := by decide +kernel
theorem dX4_intervenes_80 : decode cX4_intervenes 80 = .ok (.pop, 1) := by decide +kernel
theorem dX4_intervenes_81 : decode cX4_intervenes 81 = .ok (.iconst 1, 1) := by decide +kernel
theorem dX4_intervenes_82 : decode cX4_intervenes 82 = .ok (.ireturn, 1) := by decide +kernel
theorem dX4_intervenes_83 : decode cX4_intervenes 83 = .ok (.aload_n 0, 1) := by decide +kernel
theorem dX4_intervenes_84 : decode cX4_intervenes 84 = .ok (.getfield 36, 3) := by decide +kernel
theorem dX4_intervenes_87 : decode cX4_intervenes 87 = .ok (.invokevirtual 179, 3) := by decide +kernel
theorem dX4_intervenes_90 : decode cX4_intervenes 90 = .ok (.iconst 1, 1) := by decide +kernel
theorem dX4_intervenes_91 : decode cX4_intervenes 91 = .ok (.ireturn, 1) := by decide +kernel
theorem dX4_agreesWithSlipAfter_0 : decode cX4_agreesWithSlipAfter 0 = .ok (.aload_n 0, 1) := by decide +kernel
theorem dX4_agreesWithSlipAfter_1 : decode cX4_agreesWithSlipAfter 1 = .ok (.getfield 36, 3) := by decide +kernel
theorem dX4_agreesWithSlipAfter_4 : decode cX4_agreesWithSlipAfter 4 = .ok (.aload_n 0, 1) := by decide +kernel
theorem dX4_agreesWithSlipAfter_5 : decode cX4_agreesWithSlipAfter 5 = .ok (.getfield 32, 3) := by decide +kernel
theorem dX4_agreesWithSlipAfter_8 : decode cX4_agreesWithSlipAfter 8 = .ok (.invokevirtual 78, 3) := by decide +kernel
theorem dX4_agreesWithSlipAfter_11 : decode cX4_agreesWithSlipAfter 11 = .ok (.iconst 0, 1) := by decide +kernel
theorem dX4_agreesWithSlipAfter_12 : decode cX4_agreesWithSlipAfter 12 = .ok (.istore_n 2, 1) := by decide +kernel
theorem dX4_agreesWithSlipAfter_13 : decode cX4_agreesWithSlipAfter 13 = .ok (.iload_n 2, 1) := by decide +kernel
theorem dX4_agreesWithSlipAfter_14 : decode cX4_agreesWithSlipAfter 14 = .ok (.bipush 20, 2) := by decide +kernel
theorem dX4_agreesWithSlipAfter_16 : decode cX4_agreesWithSlipAfter 16 = .ok (.if_icmp .gt 40, 3) := by decide +kernel
theorem dX4_agreesWithSlipAfter_19 : decode cX4_agreesWithSlipAfter 19 = .ok (.aload_n 0, 1) := by decide +kernel
theorem dX4_agreesWithSlipAfter_20 : decode cX4_agreesWithSlipAfter 20 = .ok (.iload_n 2, 1) := by decide +kernel
theorem dX4_agreesWithSlipAfter_21 : decode cX4_agreesWithSlipAfter 21 = .ok (.invokevirtual 283, 3) := by decide +kernel
theorem dX4_agreesWithSlipAfter_24 : decode cX4_agreesWithSlipAfter 24 = .ok (.ifCond .ne 5, 3) := by decide +kernel
theorem dX4_agreesWithSlipAfter_27 : decode cX4_agreesWithSlipAfter 27 = .ok (.iconst 0, 1) := by decide +kernel
theorem dX4_agreesWithSlipAfter_28 : decode cX4_agreesWithSlipAfter 28 = .ok (.ireturn, 1) := by decide +kernel
theorem dX4_agreesWithSlipAfter_29 : decode cX4_agreesWithSlipAfter 29 = .ok (.iload_n 2, 1) := by decide +kernel
theorem dX4_agreesWithSlipAfter_30 : decode cX4_agreesWithSlipAfter 30 = .ok (.iload_n 1, 1) := by decide +kernel
theorem dX4_agreesWithSlipAfter_31 : decode cX4_agreesWithSlipAfter 31 = .ok (.if_icmp .ne 10, 3) := by decide +kernel
theorem dX4_agreesWithSlipAfter_34 : decode cX4_agreesWithSlipAfter 34 = .ok (.aload_n 0, 1) := by decide +kernel
theorem dX4_agreesWithSlipAfter_35 : decode cX4_agreesWithSlipAfter 35 = .ok (.getfield 36, 3) := by decide +kernel
theorem dX4_agreesWithSlipAfter_38 : decode cX4_agreesWithSlipAfter 38 = .ok (.invokevirtual 166, 3) := by decide +kernel
theorem dX4_agreesWithSlipAfter_41 : decode cX4_agreesWithSlipAfter 41 = .ok (.aload_n 0, 1) := by decide +kernel
theorem dX4_agreesWithSlipAfter_42 : decode cX4_agreesWithSlipAfter 42 = .ok (.getfield 36, 3) := by decide +kernel
theorem dX4_agreesWithSlipAfter_45 : decode cX4_agreesWithSlipAfter 45 = .ok (.iconst 1, 1) := by decide +kernel
theorem dX4_agreesWithSlipAfter_46 : decode cX4_agreesWithSlipAfter 46 = .ok (.invokevirtual 163, 3) := by decide +kernel
theorem dX4_agreesWithSlipAfter_49 : decode cX4_agreesWithSlipAfter 49 = .ok (.pop, 1) := by decide +kernel
theorem dX4_agreesWithSlipAfter_50 : decode cX4_agreesWithSlipAfter 50 = .ok (.iinc 2 1, 3) := by decide +kernel
theorem dX4_agreesWithSlipAfter_53 : decode cX4_agreesWithSlipAfter 53 = .ok (.goto (-40), 3) := by decide +kernel
theorem dX4_agreesWithSlipAfter_56 : decode cX4_agreesWithSlipAfter 56 = .ok (.iconst 1, 1) := by decide +kernel
theorem dX4_agreesWithSlipAfter_57 : decode cX4_agreesWithSlipAfter 57 = .ok (.ireturn, 1) := by decide +kernel
theorem dX4_agreesAfter_0 : decode cX4_agreesAfter 0 = .ok (.iconst 0, 1) := by decide +kernel
theorem dX4_agreesAfter_1 : decode cX4_agreesAfter 1 = .ok (.istore_n 2, 1) := by decide +kernel
theorem dX4_agreesAfter_2 : decode cX4_agreesAfter 2 = .ok (.iload_n 2, 1) := by decide +kernel
theorem dX4_agreesAfter_3 : decode cX4_agreesAfter 3 = .ok (.aload_n 0, 1) := by decide +kernel
theorem dX4_agreesAfter_4 : decode cX4_agreesAfter 4 = .ok (.getfield 102, 3) := by decide +kernel
theorem dX4_agreesAfter_7 : decode cX4_agreesAfter 7 = .ok (.if_icmp .ge 43, 3) := by decide +kernel
theorem dX4_agreesAfter_10 : decode cX4_agreesAfter 10 = .ok (.aload_n 0, 1) := by decide +kernel
theorem dX4_agreesAfter_11 : decode cX4_agreesAfter 11 = .ok (.getfield 53, 3) := by decide +kernel
theorem dX4_agreesAfter_14 : decode cX4_agreesAfter 14 = .ok (.iload_n 2, 1) := by decide +kernel
theorem dX4_agreesAfter_15 : decode cX4_agreesAfter 15 = .ok (.iaload, 1) := by decide +kernel
theorem dX4_agreesAfter_16 : decode cX4_agreesAfter 16 = .ok (.iload_n 1, 1) := by decide +kernel
theorem dX4_agreesAfter_17 : decode cX4_agreesAfter 17 = .ok (.if_icmp .ne 27, 3) := by decide +kernel
theorem dX4_agreesAfter_20 : decode cX4_agreesAfter 20 = .ok (.aload_n 0, 1) := by decide +kernel
theorem dX4_agreesAfter_21 : decode cX4_agreesAfter 21 = .ok (.getfield 36, 3) := by decide +kernel
theorem dX4_agreesAfter_24 : decode cX4_agreesAfter 24 = .ok (.aload_n 0, 1) := by decide +kernel
theorem dX4_agreesAfter_25 : decode cX4_agreesAfter 25 = .ok (.getfield 50, 3) := by decide +kernel
theorem dX4_agreesAfter_28 : decode cX4_agreesAfter 28 = .ok (.iload_n 2, 1) := by decide +kernel
theorem dX4_agreesAfter_29 : decode cX4_agreesAfter 29 = .ok (.iaload, 1) := by decide +kernel
theorem dX4_agreesAfter_30 : decode cX4_agreesAfter 30 = .ok (.invokevirtual 286, 3) := by decide +kernel
theorem dX4_agreesAfter_33 : decode cX4_agreesAfter 33 = .ok (.aload_n 0, 1) := by decide +kernel
theorem dX4_agreesAfter_34 : decode cX4_agreesAfter 34 = .ok (.getfield 56, 3) := by decide +kernel
theorem dX4_agreesAfter_37 : decode cX4_agreesAfter 37 = .ok (.iload_n 2, 1) := by decide +kernel
theorem dX4_agreesAfter_38 : decode cX4_agreesAfter 38 = .ok (.iaload, 1) := by decide +kernel
theorem dX4_agreesAfter_39 : decode cX4_agreesAfter 39 = .ok (.if_icmp .eq 5, 3) := by decide +kernel
theorem dX4_agreesAfter_42 : decode cX4_agreesAfter 42 = .ok (.iconst 0, 1) := by decide +kernel
theorem dX4_agreesAfter_43 : decode cX4_agreesAfter 43 = .ok (.ireturn, 1) := by decide +kernel
theorem dX4_agreesAfter_44 : decode cX4_agreesAfter 44 = .ok (.iinc 2 1, 3) := by decide +kernel
theorem dX4_agreesAfter_47 : decode cX4_agreesAfter 47 = .ok (.goto (-45), 3) := by decide +kernel
theorem dX4_agreesAfter_50 : decode cX4_agreesAfter 50 = .ok (.iconst 1, 1) := by decide +kernel
theorem dX4_agreesAfter_51 : decode cX4_agreesAfter 51 = .ok (.ireturn, 1) := by decide +kernel
theorem dX4_happen_0 : decode cX4_happen 0 = .ok (.iload_n 1, 1) := by decide +kernel
theorem dX4_happen_1 : decode cX4_happen 1 = .ok (.tableswitch 93 0 2 #[27, 37, 62], 27) := by decide +kernel
theorem dX4_happen_28 : decode cX4_happen 28 = .ok (.aload_n 0, 1) := by decide +kernel
theorem dX4_happen_29 : decode cX4_happen 29 = .ok (.getfield 36, 3) := by decide +kernel
theorem dX4_happen_32 : decode cX4_happen 32 = .ok (.invokevirtual 166, 3) := by decide +kernel
theorem dX4_happen_35 : decode cX4_happen 35 = .ok (.goto 68, 3) := by decide +kernel
theorem dX4_happen_38 : decode cX4_happen 38 = .ok (.aload_n 0, 1) := by decide +kernel
theorem dX4_happen_39 : decode cX4_happen 39 = .ok (.getfield 36, 3) := by decide +kernel
theorem dX4_happen_42 : decode cX4_happen 42 = .ok (.aload_n 0, 1) := by decide +kernel
theorem dX4_happen_43 : decode cX4_happen 43 = .ok (.getfield 36, 3) := by decide +kernel
theorem dX4_happen_46 : decode cX4_happen 46 = .ok (.getfield 172, 3) := by decide +kernel
theorem dX4_happen_49 : decode cX4_happen 49 = .ok (.ifCond .ne 7, 3) := by decide +kernel
theorem dX4_happen_52 : decode cX4_happen 52 = .ok (.iconst 1, 1) := by decide +kernel
theorem dX4_happen_53 : decode cX4_happen 53 = .ok (.goto 4, 3) := by decide +kernel
theorem dX4_happen_56 : decode cX4_happen 56 = .ok (.iconst 0, 1) := by decide +kernel
theorem dX4_happen_57 : decode cX4_happen 57 = .ok (.putfield 172, 3) := by decide +kernel
theorem dX4_happen_60 : decode cX4_happen 60 = .ok (.goto 43, 3) := by decide +kernel
theorem dX4_happen_63 : decode cX4_happen 63 = .ok (.aload_n 0, 1) := by decide +kernel
theorem dX4_happen_64 : decode cX4_happen 64 = .ok (.getfield 36, 3) := by decide +kernel
theorem dX4_happen_67 : decode cX4_happen 67 = .ok (.getfield 156, 3) := by decide +kernel
theorem dX4_happen_70 : decode cX4_happen 70 = .ok (.ifCond .eq 14, 3) := by decide +kernel
theorem dX4_happen_73 : decode cX4_happen 73 = .ok (.aload_n 0, 1) := by decide +kernel
theorem dX4_happen_74 : decode cX4_happen 74 = .ok (.getfield 36, 3) := by decide +kernel
theorem dX4_happen_77 : decode cX4_happen 77 = .ok (.invokevirtual 175, 3) := by decide +kernel
theorem dX4_happen_80 : decode cX4_happen 80 = .ok (.pop, 1) := by decide +kernel
theorem dX4_happen_81 : decode cX4_happen 81 = .ok (.goto 22, 3) := by decide +kernel
theorem dX4_happen_84 : decode cX4_happen 84 = .ok (.aload_n 0, 1) := by decide +kernel
theorem dX4_happen_85 : decode cX4_happen 85 = .ok (.getfield 36, 3) := by decide +kernel
theorem dX4_happen_88 : decode cX4_happen 88 = .ok (.invokevirtual 179, 3) := by decide +kernel
theorem dX4_happen_91 : decode cX4_happen 91 = .ok (.goto 12, 3) := by decide +kernel
theorem dX4_happen_94 : decode cX4_happen 94 = .ok (.aload_n 0, 1) := by decide +kernel
theorem dX4_happen_95 : decode cX4_happen 95 = .ok (.getfield 36, 3) := by decide +kernel
theorem dX4_happen_98 : decode cX4_happen 98 = .ok (.iconst 1, 1) := by decide +kernel
theorem dX4_happen_99 : decode cX4_happen 99 = .ok (.invokevirtual 163, 3) := by decide +kernel
theorem dX4_happen_102 : decode cX4_happen 102 = .ok (.pop, 1) := by decide +kernel
theorem dX4_happen_103 : decode cX4_happen 103 = .ok (.return_, 1) := by decide +kernel
