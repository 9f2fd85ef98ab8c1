theorem dX5_about_135 : decode cX5_about 135 = .ok (.aload_n 0, 1) := by decide +kernel
theorem dX5_about_136 : decode cX5_about 136 = .ok (.getfield 79, 3) := by decide +kernel
theorem dX5_about_139 : decode cX5_about 139 = .ok (.ireturn, 1) := by decide +kernel
theorem dX5_about_140 : decode cX5_about 140 = .ok (.iload_n 1, 1) := by decide +kernel
theorem dX5_about_141 : decode cX5_about 141 = .ok (.iconst 5, 1) := by decide +kernel
theorem dX5_about_142 : decode cX5_about 142 = .ok (.bipush 17, 2) := by decide +kernel
theorem dX5_about_144 : decode cX5_about 144 = .ok (.invokestatic 72, 3) := by decide +kernel
theorem dX5_about_147 : decode cX5_about 147 = .ok (.ifCond .eq 15, 3) := by decide +kernel
theorem dX5_about_150 : decode cX5_about 150 = .ok (.aload_n 0, 1) := by decide +kernel
theorem dX5_about_151 : decode cX5_about 151 = .ok (.aload_n 0, 1) := by decide +kernel
theorem dX5_about_152 : decode cX5_about 152 = .ok (.getfield 23, 3) := by decide +kernel
theorem dX5_about_155 : decode cX5_about 155 = .ok (.iload_n 1, 1) := by decide +kernel
theorem dX5_about_156 : decode cX5_about 156 = .ok (.invokevirtual 194, 3) := by decide +kernel
theorem dX5_about_159 : decode cX5_about 159 = .ok (.goto 5, 3) := by decide +kernel
theorem dX5_about_162 : decode cX5_about 162 = .ok (.bipush (-2), 2) := by decide +kernel
theorem dX5_about_164 : decode cX5_about 164 = .ok (.ireturn, 1) := by decide +kernel
theorem dX5_place_0 : decode cX5_place 0 = .ok (.iload_n 1, 1) := by decide +kernel
theorem dX5_place_1 : decode cX5_place 1 = .ok (.iconst 0, 1) := by decide +kernel
theorem dX5_place_2 : decode cX5_place 2 = .ok (.iconst 4, 1) := by decide +kernel
theorem dX5_place_3 : decode cX5_place 3 = .ok (.invokestatic 72, 3) := by decide +kernel
theorem dX5_place_6 : decode cX5_place 6 = .ok (.ifCond .eq 12, 3) := by decide +kernel
theorem dX5_place_9 : decode cX5_place 9 = .ok (.aload_n 0, 1) := by decide +kernel
theorem dX5_place_10 : decode cX5_place 10 = .ok (.getfield 17, 3) := by decide +kernel
theorem dX5_place_13 : decode cX5_place 13 = .ok (.iload_n 1, 1) := by decide +kernel
theorem dX5_place_14 : decode cX5_place 14 = .ok (.iaload, 1) := by decide +kernel
theorem dX5_place_15 : decode cX5_place 15 = .ok (.goto 5, 3) := by decide +kernel
theorem dX5_place_18 : decode cX5_place 18 = .ok (.bipush (-2), 2) := by decide +kernel
theorem dX5_place_20 : decode cX5_place 20 = .ok (.ireturn, 1) := by decide +kernel
theorem dX5_cell_0 : decode cX5_cell 0 = .ok (.aload_n 0, 1) := by decide +kernel
theorem dX5_cell_1 : decode cX5_cell 1 = .ok (.iload_n 1, 1) := by decide +kernel
theorem dX5_cell_2 : decode cX5_cell 2 = .ok (.invokevirtual 198, 3) := by decide +kernel
theorem dX5_cell_5 : decode cX5_cell 5 = .ok (.ifCond .ne 5, 3) := by decide +kernel
theorem dX5_cell_8 : decode cX5_cell 8 = .ok (.iconst (-1), 1) := by decide +kernel
theorem dX5_cell_9 : decode cX5_cell 9 = .ok (.ireturn, 1) := by decide +kernel
theorem dX5_cell_10 : decode cX5_cell 10 = .ok (.aload_n 0, 1) := by decide +kernel
theorem dX5_cell_11 : decode cX5_cell 11 = .ok (.getfield 23, 3) := by decide +kernel
theorem dX5_cell_14 : decode cX5_cell 14 = .ok (.iconst 0, 1) := by decide +kernel
theorem dX5_cell_15 : decode cX5_cell 15 = .ok (.iload_n 1, 1) := by decide +kernel
theorem dX5_cell_16 : decode cX5_cell 16 = .ok (.iadd, 1) := by decide +kernel
theorem dX5_cell_17 : decode cX5_cell 17 = .ok (.iaload, 1) := by decide +kernel
theorem dX5_cell_18 : decode cX5_cell 18 = .ok (.iconst 1, 1) := by decide +kernel
theorem dX5_cell_19 : decode cX5_cell 19 = .ok (.if_icmp .ne 7, 3) := by decide +kernel
theorem dX5_cell_22 : decode cX5_cell 22 = .ok (.iconst 1, 1) := by decide +kernel
theorem dX5_cell_23 : decode cX5_cell 23 = .ok (.goto 4, 3) := by decide +kernel
theorem dX5_cell_26 : decode cX5_cell 26 = .ok (.iconst 0, 1) := by decide +kernel
theorem dX5_cell_27 : decode cX5_cell 27 = .ok (.istore_n 3, 1) := by decide +kernel
theorem dX5_cell_28 : decode cX5_cell 28 = .ok (.iload_n 2, 1) := by decide +kernel
theorem dX5_cell_29 : decode cX5_cell 29 = .ok (.tableswitch 152 0 7 #[47, 57, 66, 85, 104, 114, 124, 134], 47) := by decide +kernel
theorem dX5_cell_76 : decode cX5_cell 76 = .ok (.aload_n 0, 1) := by decide +kernel
theorem dX5_cell_77 : decode cX5_cell 77 = .ok (.getfield 23, 3) := by decide +kernel
theorem dX5_cell_80 : decode cX5_cell 80 = .ok (.bipush 54, 2) := by decide +kernel
theorem dX5_cell_82 : decode cX5_cell 82 = .ok (.iload_n 1, 1) := by decide +kernel
theorem dX5_cell_83 : decode cX5_cell 83 = .ok (.iadd, 1) := by decide +kernel
theorem dX5_cell_84 : decode cX5_cell 84 = .ok (.iaload, 1) := by decide +kernel
theorem dX5_cell_85 : decode cX5_cell 85 = .ok (.ireturn, 1) := by decide +kernel
theorem dX5_cell_86 : decode cX5_cell 86 = .ok (.aload_n 0, 1) := by decide +kernel
theorem dX5_cell_87 : decode cX5_cell 87 = .ok (.getfield 23, 3) := by decide +kernel
theorem dX5_cell_90 : decode cX5_cell 90 = .ok (.iconst 0, 1) := by decide +kernel
theorem dX5_cell_91 : decode cX5_cell 91 = .ok (.iload_n 1, 1) := by decide +kernel
theorem dX5_cell_92 : decode cX5_cell 92 = .ok (.iadd, 1) := by decide +kernel
theorem dX5_cell_93 : decode cX5_cell 93 = .ok (.iaload, 1) := by decide +kernel
theorem dX5_cell_94 : decode cX5_cell 94 = .ok (.ireturn, 1) := by decide +kernel
theorem dX5_cell_95 : decode cX5_cell 95 = .ok (.iload_n 3, 1) := by decide +kernel
theorem dX5_cell_96 : decode cX5_cell 96 = .ok (.ifCond .eq 15, 3) := by decide +kernel
theorem dX5_cell_99 : decode cX5_cell 99 = .ok (.aload_n 0, 1) := by decide +kernel
theorem dX5_cell_100 : decode cX5_cell 100 = .ok (.getfield 23, 3) := by decide +kernel
theorem dX5_cell_103 : decode cX5_cell 103 = .ok (.bipush 9, 2) := by decide +kernel
theorem dX5_cell_105 : decode cX5_cell 105 = .ok (.iload_n 1, 1) := by decide +kernel
theorem dX5_cell_106 : decode cX5_cell 106 = .ok (.iadd, 1) := by decide +kernel
theorem dX5_cell_107 : decode cX5_cell 107 = .ok (.iaload, 1) := by decide +kernel
theorem dX5_cell_108 : decode cX5_cell 108 = .ok (.goto 5, 3) := by decide +kernel
theorem dX5_cell_111 : decode cX5_cell 111 = .ok (.bipush (-9), 2) := by decide +kernel
theorem dX5_cell_113 : decode cX5_cell 113 = .ok (.ireturn, 1) := by decide +kernel
theorem dX5_cell_114 : decode cX5_cell 114 = .ok (.iload_n 3, 1) := by decide +kernel
theorem dX5_cell_115 : decode cX5_cell 115 = .ok (.ifCond .eq 15, 3) := by decide +kernel
theorem dX5_cell_118 : decode cX5_cell 118 = .ok (.aload_n 0, 1) := by decide +kernel
theorem dX5_cell_119 : decode cX5_cell 119 = .ok (.getfield 23, 3) := by decide +kernel
theorem dX5_cell_122 : decode cX5_cell 122 = .ok (.bipush 18, 2) := by decide +kernel
theorem dX5_cell_124 : decode cX5_cell 124 = .ok (.iload_n 1, 1) := by decide +kernel
theorem dX5_cell_125 : decode cX5_cell 125 = .ok (.iadd, 1) := by decide +kernel
theorem dX5_cell_126 : decode cX5_cell 126 = .ok (.iaload, 1) := by decide +kernel
theorem dX5_cell_127 : decode cX5_cell 127 = .ok (.goto 5, 3) := by decide +kernel
theorem dX5_cell_130 : decode cX5_cell 130 = .ok (.bipush (-9), 2) := by decide +kernel
theorem dX5_cell_132 : decode cX5_cell 132 = .ok (.ireturn, 1) := by decide +kernel
theorem dX5_cell_133 : decode cX5_cell 133 = .ok (.aload_n 0, 1) := by decide +kernel
theorem dX5_cell_134 : decode cX5_cell 134 = .ok (.getfield 23, 3) := by decide +kernel
theorem dX5_cell_137 : decode cX5_cell 137 = .ok (.bipush 27, 2) := by decide +kernel
theorem dX5_cell_139 : decode cX5_cell 139 = .ok (.iload_n 1, 1) := by decide +kernel
theorem dX5_cell_140 : decode cX5_cell 140 = .ok (.iadd, 1) := by decide +kernel
theorem dX5_cell_141 : decode cX5_cell 141 = .ok (.iaload, 1) := by decide +kernel
theorem dX5_cell_142 : decode cX5_cell 142 = .ok (.ireturn, 1) := by decide +kernel
theorem dX5_cell_143 : decode cX5_cell 143 = .ok (.aload_n 0, 1) := by decide +kernel
theorem dX5_cell_144 : decode cX5_cell 144 = .ok (.getfield 23, 3) := by decide +kernel
theorem dX5_cell_147 : decode cX5_cell 147 = .ok (.bipush 36, 2) := by decide +kernel
theorem dX5_cell_149 : decode cX5_cell 149 = .ok (.iload_n 1, 1) := by decide +kernel
theorem dX5_cell_150 : decode cX5_cell 150 = .ok (.iadd, 1) := by decide +kernel
theorem dX5_cell_151 : decode cX5_cell 151 = .ok (.iaload, 1) := by decide +kernel
theorem dX5_cell_152 : decode cX5_cell 152 = .ok (.ireturn, 1) := by decide +kernel
theorem dX5_cell_153 : decode cX5_cell 153 = .ok (.aload_n 0, 1) := by decide +kernel
theorem dX5_cell_154 : decode cX5_cell 154 = .ok (.getfield 23, 3) := by decide +kernel
theorem dX5_cell_157 : decode cX5_cell 157 = .ok (.bipush 45, 2) := by decide +kernel
theorem dX5_cell_159 : decode cX5_cell 159 = .ok (.iload_n 1, 1) := by decide +kernel
theorem dX5_cell_160 : decode cX5_cell 160 = .ok (.iadd, 1) := by decide +kernel
theorem dX5_cell_161 : decode cX5_cell 161 = .ok (.iaload, 1) := by decide +kernel
theorem dX5_cell_162 : decode cX5_cell 162 = .ok (.ireturn, 1) := by decide +kernel
theorem dX5_cell_163 : decode cX5_cell 163 = .ok (.aload_n 0, 1) := by decide +kernel
theorem dX5_cell_164 : decode cX5_cell 164 = .ok (.aload_n 0, 1) := by decide +kernel
theorem dX5_cell_165 : decode cX5_cell 165 = .ok (.getfield 23, 3) := by decide +kernel
theorem dX5_cell_168 : decode cX5_cell 168 = .ok (.iload_n 1, 1) := by decide +kernel
theorem dX5_cell_169 : decode cX5_cell 169 = .ok (.invokevirtual 142, 3) := by decide +kernel
theorem dX5_cell_172 : decode cX5_cell 172 = .ok (.ifCond .eq 7, 3) := by decide +kernel
theorem dX5_cell_175 : decode cX5_cell 175 = .ok (.iconst 1, 1) := by decide +kernel
theorem dX5_cell_176 : decode cX5_cell 176 = .ok (.goto 4, 3) := by decide +kernel
theorem dX5_cell_179 : decode cX5_cell 179 = .ok (.iconst 0, 1) := by decide +kernel
theorem dX5_cell_180 : decode cX5_cell 180 = .ok (.ireturn, 1) := by decide +kernel
theorem dX5_cell_181 : decode cX5_cell 181 = .ok (.bipush (-2), 2) := by decide +kernel
theorem dX5_cell_183 : decode cX5_cell 183 = .ok (.ireturn, 1) := by decide +kernel
theorem dX5_valve_0 : decode cX5_valve 0 = .ok (.aload_n 0, 1) := by decide +kernel
theorem dX5_valve_1 : decode cX5_valve 1 = .ok (.iload_n 1, 1) := by decide +kernel
theorem dX5_valve_2 : decode cX5_valve 2 = .ok (.invokevirtual 201, 3) := by decide +kernel
theorem dX5_valve_5 : decode cX5_valve 5 = .ok (.ifCond .ne 5, 3) := by decide +kernel
theorem dX5_valve_8 : decode cX5_valve 8 = .ok (.iconst (-1), 1) := by decide +kernel
theorem dX5_valve_9 : decode cX5_valve 9 = .ok (.ireturn, 1) := by decide +kernel
theorem dX5_valve_10 : decode cX5_valve 10 = .ok (.iload_n 2, 1) := by decide +kernel
theorem dX5_valve_11 : decode cX5_valve 11 = .ok (.ifCond .ne 15, 3) := by decide +kernel
theorem dX5_valve_14 : decode cX5_valve 14 = .ok (.aload_n 0, 1) := by decide +kernel
theorem dX5_valve_15 : decode cX5_valve 15 = .ok (.getfield 23, 3) := by decide +kernel
theorem dX5_valve_18 : decode cX5_valve 18 = .ok (.bipush 63, 2) := by decide +kernel
theorem dX5_valve_20 : decode cX5_valve 20 = .ok (.iload_n 1, 1) := by decide +kernel
theorem dX5_valve_21 : decode cX5_valve 21 = .ok (.iadd, 1) := by decide +kernel
theorem dX5_valve_22 : decode cX5_valve 22 = .ok (.iaload, 1) := by decide +kernel
theorem dX5_valve_23 : decode cX5_valve 23 = .ok (.goto 21, 3) := by decide +kernel
theorem dX5_valve_26 : decode cX5_valve 26 = .ok (.iload_n 2, 1) := by decide +kernel
theorem dX5_valve_27 : decode cX5_valve 27 = .ok (.iconst 1, 1) := by decide +kernel
theorem dX5_valve_28 : decode cX5_valve 28 = .ok (.if_icmp .ne 14, 3) := by decide +kernel
theorem dX5_valve_31 : decode cX5_valve 31 = .ok (.aload_n 0, 1) := by decide +kernel
theorem dX5_valve_32 : decode cX5_valve 32 = .ok (.getfield 20, 3) := by decide +kernel
theorem dX5_valve_35 : decode cX5_valve 35 = .ok (.iload_n 1, 1) := by decide +kernel
theorem dX5_valve_36 : decode cX5_valve 36 = .ok (.iaload, 1) := by decide +kernel
theorem dX5_valve_37 : decode cX5_valve 37 = .ok (.iconst 4, 1) := by decide +kernel
theorem dX5_valve_38 : decode cX5_valve 38 = .ok (.iadd, 1) := by decide +kernel
theorem dX5_valve_39 : decode cX5_valve 39 = .ok (.goto 5, 3) := by decide +kernel
theorem dX5_valve_42 : decode cX5_valve 42 = .ok (.bipush (-2), 2) := by decide +kernel
theorem dX5_valve_44 : decode cX5_valve 44 = .ok (.ireturn, 1) := by decide +kernel
theorem dX5_queue_0 : decode cX5_queue 0 = .ok (.iload_n 1, 1) := by decide +kernel
theorem dX5_queue_1 : decode cX5_queue 1 = .ok (.iconst 0, 1) := by decide +kernel
theorem dX5_queue_2 : decode cX5_queue 2 = .ok (.bipush 23, 2) := by decide +kernel
theorem dX5_queue_4 : decode cX5_queue 4 = .ok (.invokestatic 72, 3) := by decide +kernel
theorem dX5_queue_7 : decode cX5_queue 7 = .ok (.ifCond .ne 6, 3) := by decide +kernel
theorem dX5_queue_10 : decode cX5_queue 10 = .ok (.bipush (-2), 2) := by decide +kernel
theorem dX5_queue_12 : decode cX5_queue 12 = .ok (.ireturn, 1) := by decide +kernel
theorem dX5_queue_13 : decode cX5_queue 13 = .ok (.iload_n 1, 1) := by decide +kernel
theorem dX5_queue_14 : decode cX5_queue 14 = .ok (.aload_n 0, 1) := by decide +kernel
theorem dX5_queue_15 : decode cX5_queue 15 = .ok (.getfield 23, 3) := by decide +kernel
theorem dX5_queue_18 : decode cX5_queue 18 = .ok (.bipush 78, 2) := by decide +kernel
theorem dX5_queue_20 : decode cX5_queue 20 = .ok (.iaload, 1) := by decide +kernel
theorem dX5_queue_21 : decode cX5_queue 21 = .ok (.if_icmp .ge 15, 3) := by decide +kernel
theorem dX5_queue_24 : decode cX5_queue 24 = .ok (.aload_n 0, 1) := by decide +kernel
theorem dX5_queue_25 : decode cX5_queue 25 = .ok (.getfield 23, 3) := by decide +kernel
theorem dX5_queue_28 : decode cX5_queue 28 = .ok (.bipush 79, 2) := by decide +kernel
theorem dX5_queue_30 : decode cX5_queue 30 = .ok (.iload_n 1, 1) := by decide +kernel
theorem dX5_queue_31 : decode cX5_queue 31 = .ok (.iadd, 1) := by decide +kernel
theorem dX5_queue_32 : decode cX5_queue 32 = .ok (.iaload, 1) := by decide +kernel
theorem dX5_queue_33 : decode cX5_queue 33 = .ok (.goto 5, 3) := by decide +kernel
theorem dX5_queue_36 : decode cX5_queue 36 = .ok (.bipush (-9), 2) := by decide +kernel
theorem dX5_queue_38 : decode cX5_queue 38 = .ok (.ireturn, 1) := by decide +kernel
theorem dX5_note_0 : decode cX5_note 0 = .ok (.iconst 0, 1) := by decide +kernel
theorem dX5_note_1 : decode cX5_note 1 = .ok (.istore_n 1, 1) := by decide +kernel
theorem dX5_note_2 : decode cX5_note 2 = .ok (.iload_n 1, 1) := by decide +kernel
theorem dX5_note_3 : decode cX5_note 3 = .ok (.bipush 103, 2) := by decide +kernel
theorem dX5_note_5 : decode cX5_note 5 = .ok (.if_icmp .ge 29, 3) := by decide +kernel
theorem dX5_note_8 : decode cX5_note 8 = .ok (.aload_n 0, 1) := by decide +kernel
theorem dX5_note_9 : decode cX5_note 9 = .ok (.getfield 29, 3) := by decide +kernel
theorem dX5_note_12 : decode cX5_note 12 = .ok (.bipush 103, 2) := by decide +kernel
theorem dX5_note_14 : decode cX5_note 14 = .ok (.aload_n 0, 1) := by decide +kernel
theorem dX5_note_15 : decode cX5_note 15 = .ok (.getfield 204, 3) := by decide +kernel
theorem dX5_note_18 : decode cX5_note 18 = .ok (.imul, 1) := by decide +kernel
theorem dX5_note_19 : decode cX5_note 19 = .ok (.iload_n 1, 1) := by decide +kernel
theorem dX5_note_20 : decode cX5_note 20 = .ok (.iadd, 1) := by decide +kernel
theorem dX5_note_21 : decode cX5_note 21 = .ok (.aload_n 0, 1) := by decide +kernel
theorem dX5_note_22 : decode cX5_note 22 = .ok (.getfield 23, 3) := by decide +kernel
theorem dX5_note_25 : decode cX5_note 25 = .ok (.iload_n 1, 1) := by decide +kernel
theorem dX5_note_26 : decode cX5_note 26 = .ok (.iaload, 1) := by decide +kernel
theorem dX5_note_27 : decode cX5_note 27 = .ok (.iastore, 1) := by decide +kernel
theorem dX5_note_28 : decode cX5_note 28 = .ok (.iinc 1 1, 3) := by decide +kernel
theorem dX5_note_31 : decode cX5_note 31 = .ok (.goto (-29), 3) := by decide +kernel
theorem dX5_note_34 : decode cX5_note 34 = .ok (.aload_n 0, 1) := by decide +kernel
theorem dX5_note_35 : decode cX5_note 35 = .ok (.aload_n 0, 1) := by decide +kernel
theorem dX5_note_36 : decode cX5_note 36 = .ok (.getfield 204, 3) := by decide +kernel
theorem dX5_note_39 : decode cX5_note 39 = .ok (.iconst 1, 1) := by decide +kernel
theorem dX5_note_40 : decode cX5_note 40 = .ok (.iadd, 1) := by decide +kernel
theorem dX5_note_41 : decode cX5_note 41 = .ok (.bipush 14, 2) := by decide +kernel
theorem dX5_note_43 : decode cX5_note 43 = .ok (.irem, 1) := by decide +kernel
theorem dX5_note_44 : decode cX5_note 44 = .ok (.putfield 204, 3) := by decide +kernel
theorem dX5_note_47 : decode cX5_note 47 = .ok (.aload_n 0, 1) := by decide +kernel
theorem dX5_note_48 : decode cX5_note 48 = .ok (.aload_n 0, 1) := by decide +kernel
theorem dX5_note_49 : decode cX5_note 49 = .ok (.getfield 139, 3) := by decide +kernel
theorem dX5_note_52 : decode cX5_note 52 = .ok (.bipush 14, 2) := by decide +kernel
theorem dX5_note_54 : decode cX5_note 54 = .ok (.if_icmp .ge 12, 3) := by decide +kernel
theorem dX5_note_57 : decode cX5_note 57 = .ok (.aload_n 0, 1) := by decide +kernel
theorem dX5_note_58 : decode cX5_note 58 = .ok (.getfield 139, 3) := by decide +kernel
theorem dX5_note_61 : decode cX5_note 61 = .ok (.iconst 1, 1) := by decide +kernel
theorem dX5_note_62 : decode cX5_note 62 = .ok (.iadd, 1) := by decide +kernel
theorem dX5_note_63 : decode cX5_note 63 = .ok (.goto 5, 3) := by decide +kernel
theorem dX5_note_66 : decode cX5_note 66 = .ok (.bipush 14, 2) := by decide +kernel
theorem dX5_note_68 : decode cX5_note 68 = .ok (.putfield 139, 3) := by decide +kernel
theorem dX5_note_71 : decode cX5_note 71 = .ok (.return_, 1) := by decide +kernel
theorem dX5_step_0 : decode cX5_step 0 = .ok (.iload_n 1, 1) := by decide +kernel
theorem dX5_step_1 : decode cX5_step 1 = .ok (.iconst 1, 1) := by decide +kernel
theorem dX5_step_2 : decode cX5_step 2 = .ok (.bipush 99, 2) := by decide +kernel
theorem dX5_step_4 : decode cX5_step 4 = .ok (.invokestatic 72, 3) := by decide +kernel
theorem dX5_step_7 : decode cX5_step 7 = .ok (.ifCond .ne 6, 3) := by decide +kernel
theorem dX5_step_10 : decode cX5_step 10 = .ok (.bipush (-2), 2) := by decide +kernel
theorem dX5_step_12 : decode cX5_step 12 = .ok (.ireturn, 1) := by decide +kernel
theorem dX5_step_13 : decode cX5_step 13 = .ok (.aload_n 0, 1) := by decide +kernel
theorem dX5_step_14 : decode cX5_step 14 = .ok (.getfield 23, 3) := by decide +kernel
theorem dX5_step_17 : decode cX5_step 17 = .ok (.bipush 70, 2) := by decide +kernel
theorem dX5_step_19 : decode cX5_step 19 = .ok (.iaload, 1) := by decide +kernel
theorem dX5_step_20 : decode cX5_step 20 = .ok (.iconst 1, 1) := by decide +kernel
theorem dX5_step_21 : decode cX5_step 21 = .ok (.if_icmp .ne 6, 3) := by decide +kernel
theorem dX5_step_24 : decode cX5_step 24 = .ok (.bipush (-3), 2) := by decide +kernel
theorem dX5_step_26 : decode cX5_step 26 = .ok (.ireturn, 1) := by decide +kernel
theorem dX5_step_27 : decode cX5_step 27 = .ok (.aload_n 0, 1) := by decide +kernel
theorem dX5_step_28 : decode cX5_step 28 = .ok (.invokevirtual 207, 3) := by decide +kernel
theorem dX5_step_31 : decode cX5_step 31 = .ok (.aload_n 0, 1) := by decide +kernel
theorem dX5_step_32 : decode cX5_step 32 = .ok (.aload_n 0, 1) := by decide +kernel
theorem dX5_step_33 : decode cX5_step 33 = .ok (.getfield 23, 3) := by decide +kernel
theorem dX5_step_36 : decode cX5_step 36 = .ok (.iload_n 1, 1) := by decide +kernel
theorem dX5_step_37 : decode cX5_step 37 = .ok (.invokevirtual 210, 3) := by decide +kernel
theorem dX5_step_40 : decode cX5_step 40 = .ok (.ireturn, 1) := by decide +kernel
theorem dX5_slip_0 : decode cX5_slip 0 = .ok (.aload_n 0, 1) := by decide +kernel
theorem dX5_slip_1 : decode cX5_slip 1 = .ok (.invokevirtual 207, 3) := by decide +kernel
theorem dX5_slip_4 : decode cX5_slip 4 = .ok (.aload_n 0, 1) := by decide +kernel
theorem dX5_slip_5 : decode cX5_slip 5 = .ok (.aload_n 0, 1) := by decide +kernel
theorem dX5_slip_6 : decode cX5_slip 6 = .ok (.getfield 23, 3) := by decide +kernel
theorem dX5_slip_9 : decode cX5_slip 9 = .ok (.invokevirtual 153, 3) := by decide +kernel
theorem dX5_slip_12 : decode cX5_slip 12 = .ok (.aload_n 0, 1) := by decide +kernel
theorem dX5_slip_13 : decode cX5_slip 13 = .ok (.aload_n 0, 1) := by decide +kernel
theorem dX5_slip_14 : decode cX5_slip 14 = .ok (.getfield 23, 3) := by decide +kernel
theorem dX5_slip_17 : decode cX5_slip 17 = .ok (.invokevirtual 213, 3) := by decide +kernel
theorem dX5_slip_20 : decode cX5_slip 20 = .ok (.ireturn, 1) := by decide +kernel
theorem dX5_jam_0 : decode cX5_jam 0 = .ok (.aload_n 0, 1) := by decide +kernel
theorem dX5_jam_1 : decode cX5_jam 1 = .ok (.invokevirtual 207, 3) := by decide +kernel
theorem dX5_jam_4 : decode cX5_jam 4 = .ok (.aload_n 0, 1) := by decide +kernel
theorem dX5_jam_5 : decode cX5_jam 5 = .ok (.getfield 23, 3) := by decide +kernel
theorem dX5_jam_8 : decode cX5_jam 8 = .ok (.bipush 69, 2) := by decide +kernel
theorem dX5_jam_10 : decode cX5_jam 10 = .ok (.iconst 1, 1) := by decide +kernel
theorem dX5_jam_11 : decode cX5_jam 11 = .ok (.aload_n 0, 1) := by decide +kernel
theorem dX5_jam_12 : decode cX5_jam 12 = .ok (.getfield 23, 3) := by decide +kernel
theorem dX5_jam_15 : decode cX5_jam 15 = .ok (.bipush 69, 2) := by decide +kernel
theorem dX5_jam_17 : decode cX5_jam 17 = .ok (.iaload, 1) := by decide +kernel
theorem dX5_jam_18 : decode cX5_jam 18 = .ok (.isub, 1) := by decide +kernel
theorem dX5_jam_19 : decode cX5_jam 19 = .ok (.iastore, 1) := by decide +kernel
theorem dX5_jam_20 : decode cX5_jam 20 = .ok (.aload_n 0, 1) := by decide +kernel
theorem dX5_jam_21 : decode cX5_jam 21 = .ok (.getfield 23, 3) := by decide +kernel
theorem dX5_jam_24 : decode cX5_jam 24 = .ok (.bipush 69, 2) := by decide +kernel
theorem dX5_jam_26 : decode cX5_jam 26 = .ok (.iaload, 1) := by decide +kernel
theorem dX5_jam_27 : decode cX5_jam 27 = .ok (.ireturn, 1) := by decide +kernel
theorem dX5_clearOn_0 : decode cX5_clearOn 0 = .ok (.aload_n 0, 1) := by decide +kernel
theorem dX5_clearOn_1 : decode cX5_clearOn 1 = .ok (.getfield 17, 3) := by decide +kernel
theorem dX5_clearOn_4 : decode cX5_clearOn 4 = .ok (.iconst 4, 1) := by decide +kernel
theorem dX5_clearOn_5 : decode cX5_clearOn 5 = .ok (.iaload, 1) := by decide +kernel
theorem dX5_clearOn_6 : decode cX5_clearOn 6 = .ok (.istore_n 2, 1) := by decide +kernel
theorem dX5_clearOn_7 : decode cX5_clearOn 7 = .ok (.aload_n 1, 1) := by decide +kernel
theorem dX5_clearOn_8 : decode cX5_clearOn 8 = .ok (.iconst 0, 1) := by decide +kernel
theorem dX5_clearOn_9 : decode cX5_clearOn 9 = .ok (.iload_n 2, 1) := by decide +kernel
theorem dX5_clearOn_10 : decode cX5_clearOn 10 = .ok (.iadd, 1) := by decide +kernel
theorem dX5_clearOn_11 : decode cX5_clearOn 11 = .ok (.iaload, 1) := by decide +kernel
theorem dX5_clearOn_12 : decode cX5_clearOn 12 = .ok (.istore_n 3, 1) := by decide +kernel
theorem dX5_clearOn_13 : decode cX5_clearOn 13 = .ok (.aload_n 1, 1) := by decide +kernel
theorem dX5_clearOn_14 : decode cX5_clearOn 14 = .ok (.bipush 76, 2) := by decide +kernel
theorem dX5_clearOn_16 : decode cX5_clearOn 16 = .ok (.dup2, 1) := by decide +kernel
theorem dX5_clearOn_17 : decode cX5_clearOn 17 = .ok (.iaload, 1) := by decide +kernel
theorem dX5_clearOn_18 : decode cX5_clearOn 18 = .ok (.iload_n 3, 1) := by decide +kernel
theorem dX5_clearOn_19 : decode cX5_clearOn 19 = .ok (.iadd, 1) := by decide +kernel
theorem dX5_clearOn_20 : decode cX5_clearOn 20 = .ok (.iastore, 1) := by decide +kernel
theorem dX5_clearOn_21 : decode cX5_clearOn 21 = .ok (.aload_n 0, 1) := by decide +kernel
theorem dX5_clearOn_22 : decode cX5_clearOn 22 = .ok (.aload_n 1, 1) := by decide +kernel
theorem dX5_clearOn_23 : decode cX5_clearOn 23 = .ok (.iload_n 2, 1) := by decide +kernel
theorem dX5_clearOn_24 : decode cX5_clearOn 24 = .ok (.invokevirtual 149, 3) := by decide +kernel
theorem dX5_clearOn_27 : decode cX5_clearOn 27 = .ok (.aload_n 1, 1) := by decide +kernel
theorem dX5_clearOn_28 : decode cX5_clearOn 28 = .ok (.bipush 54, 2) := by decide +kernel
theorem dX5_clearOn_30 : decode cX5_clearOn 30 = .ok (.iload_n 2, 1) := by decide +kernel
theorem dX5_clearOn_31 : decode cX5_clearOn 31 = .ok (.iadd, 1) := by decide +kernel
theorem dX5_clearOn_32 : decode cX5_clearOn 32 = .ok (.iconst 0, 1) := by decide +kernel
theorem dX5_clearOn_33 : decode cX5_clearOn 33 = .ok (.iastore, 1) := by decide +kernel
theorem dX5_clearOn_34 : decode cX5_clearOn 34 = .ok (.aload_n 1, 1) := by decide +kernel
theorem dX5_clearOn_35 : decode cX5_clearOn 35 = .ok (.bipush 70, 2) := by decide +kernel
theorem dX5_clearOn_37 : decode cX5_clearOn 37 = .ok (.iconst 0, 1) := by decide +kernel
theorem dX5_clearOn_38 : decode cX5_clearOn 38 = .ok (.iastore, 1) := by decide +kernel
theorem dX5_clearOn_39 : decode cX5_clearOn 39 = .ok (.iload_n 3, 1) := by decide +kernel
theorem dX5_clearOn_40 : decode cX5_clearOn 40 = .ok (.ireturn, 1) := by decide +kernel
theorem dX5_clear_0 : decode cX5_clear 0 = .ok (.aload_n 0, 1) := by decide +kernel
theorem dX5_clear_1 : decode cX5_clear 1 = .ok (.getfield 23, 3) := by decide +kernel
theorem dX5_clear_4 : decode cX5_clear 4 = .ok (.bipush 70, 2) := by decide +kernel
theorem dX5_clear_6 : decode cX5_clear 6 = .ok (.iaload, 1) := by decide +kernel
theorem dX5_clear_7 : decode cX5_clear 7 = .ok (.ifCond .ne 6, 3) := by decide +kernel
theorem dX5_clear_10 : decode cX5_clear 10 = .ok (.bipush (-3), 2) := by decide +kernel
theorem dX5_clear_12 : decode cX5_clear 12 = .ok (.ireturn, 1) := by decide +kernel
theorem dX5_clear_13 : decode cX5_clear 13 = .ok (.aload_n 0, 1) := by decide +kernel
theorem dX5_clear_14 : decode cX5_clear 14 = .ok (.invokevirtual 207, 3) := by decide +kernel
theorem dX5_clear_17 : decode cX5_clear 17 = .ok (.aload_n 0, 1) := by decide +kernel
theorem dX5_clear_18 : decode cX5_clear 18 = .ok (.aload_n 0, 1) := by decide +kernel
theorem dX5_clear_19 : decode cX5_clear 19 = .ok (.getfield 23, 3) := by decide +kernel
theorem dX5_clear_22 : decode cX5_clear 22 = .ok (.invokevirtual 216, 3) := by decide +kernel
theorem dX5_clear_25 : decode cX5_clear 25 = .ok (.ireturn, 1) := by decide +kernel
theorem dX5_restartOn_0 : decode cX5_restartOn 0 = .ok (.iconst 0, 1) := by decide +kernel
theorem dX5_restartOn_1 : decode cX5_restartOn 1 = .ok (.istore_n 2, 1) := by decide +kernel
theorem dX5_restartOn_2 : decode cX5_restartOn 2 = .ok (.iload_n 2, 1) := by decide +kernel
theorem dX5_restartOn_3 : decode cX5_restartOn 3 = .ok (.aload_n 0, 1) := by decide +kernel
theorem dX5_restartOn_4 : decode cX5_restartOn 4 = .ok (.getfield 17, 3) := by decide +kernel
theorem dX5_restartOn_7 : decode cX5_restartOn 7 = .ok (.iconst 0, 1) := by decide +kernel
theorem dX5_restartOn_8 : decode cX5_restartOn 8 = .ok (.iaload, 1) := by decide +kernel
theorem dX5_restartOn_9 : decode cX5_restartOn 9 = .ok (.if_icmp .gt 34, 3) := by decide +kernel
theorem dX5_restartOn_12 : decode cX5_restartOn 12 = .ok (.aload_n 1, 1) := by decide +kernel
theorem dX5_restartOn_13 : decode cX5_restartOn 13 = .ok (.bipush 54, 2) := by decide +kernel
theorem dX5_restartOn_15 : decode cX5_restartOn 15 = .ok (.iload_n 2, 1) := by decide +kernel
theorem dX5_restartOn_16 : decode cX5_restartOn 16 = .ok (.iadd, 1) := by decide +kernel
theorem dX5_restartOn_17 : decode cX5_restartOn 17 = .ok (.aload_n 1, 1) := by decide +kernel
theorem dX5_restartOn_18 : decode cX5_restartOn 18 = .ok (.iconst 0, 1) := by decide +kernel
theorem dX5_restartOn_19 : decode cX5_restartOn 19 = .ok (.iload_n 2, 1) := by decide +kernel
theorem dX5_restartOn_20 : decode cX5_restartOn 20 = .ok (.iadd, 1) := by decide +kernel
theorem dX5_restartOn_21 : decode cX5_restartOn 21 = .ok (.iaload, 1) := by decide +kernel
theorem dX5_restartOn_22 : decode cX5_restartOn 22 = .ok (.iconst 1, 1) := by decide +kernel
theorem dX5_restartOn_23 : decode cX5_restartOn 23 = .ok (.if_icmp .ne 7, 3) := by decide +kernel
theorem dX5_restartOn_26 : decode cX5_restartOn 26 = .ok (.iconst 1, 1) := by decide +kernel
theorem dX5_restartOn_27 : decode cX5_restartOn 27 = .ok (.goto 9, 3) := by decide +kernel
theorem dX5_restartOn_30 : decode cX5_restartOn 30 = .ok (.aload_n 1, 1) := by decide +kernel
theorem dX5_restartOn_31 : decode cX5_restartOn 31 = .ok (.bipush 54, 2) := by decide +kernel
theorem dX5_restartOn_33 : decode cX5_restartOn 33 = .ok (.iload_n 2, 1) := by decide +kernel
theorem dX5_restartOn_34 : decode cX5_restartOn 34 = .ok (.iadd, 1) := by decide +kernel
theorem dX5_restartOn_35 : decode cX5_restartOn 35 = .ok (.iaload, 1) := by decide +kernel
theorem dX5_restartOn_36 : decode cX5_restartOn 36 = .ok (.iastore, 1) := by decide +kernel
theorem dX5_restartOn_37 : decode cX5_restartOn 37 = .ok (.iinc 2 1, 3) := by decide +kernel
theorem dX5_restartOn_40 : decode cX5_restartOn 40 = .ok (.goto (-38), 3) := by decide +kernel
theorem dX5_restartOn_43 : decode cX5_restartOn 43 = .ok (.return_, 1) := by decide +kernel
theorem dX5_restart_0 : decode cX5_restart 0 = .ok (.aload_n 0, 1) := by decide +kernel
theorem dX5_restart_1 : decode cX5_restart 1 = .ok (.invokevirtual 207, 3) := by decide +kernel
theorem dX5_restart_4 : decode cX5_restart 4 = .ok (.aload_n 0, 1) := by decide +kernel
theorem dX5_restart_5 : decode cX5_restart 5 = .ok (.aload_n 0, 1) := by decide +kernel
theorem dX5_restart_6 : decode cX5_restart 6 = .ok (.getfield 23, 3) := by decide +kernel
theorem dX5_restart_9 : decode cX5_restart 9 = .ok (.invokevirtual 219, 3) := by decide +kernel
theorem dX5_restart_12 : decode cX5_restart 12 = .ok (.aload_n 0, 1) := by decide +kernel
theorem dX5_restart_13 : decode cX5_restart 13 = .ok (.aload_n 0, 1) := by decide +kernel
theorem dX5_restart_14 : decode cX5_restart 14 = .ok (.getfield 23, 3) := by decide +kernel
theorem dX5_restart_17 : decode cX5_restart 17 = .ok (.invokevirtual 213, 3) := by decide +kernel
theorem dX5_restart_20 : decode cX5_restart 20 = .ok (.ireturn, 1) := by decide +kernel
theorem dX5_lay_0 : decode cX5_lay 0 = .ok (.iload_n 2, 1) := by decide +kernel
theorem dX5_lay_1 : decode cX5_lay 1 = .ok (.iconst 1, 1) := by decide +kernel
theorem dX5_lay_2 : decode cX5_lay 2 = .ok (.bipush 9, 2) := by decide +kernel
theorem dX5_lay_4 : decode cX5_lay 4 = .ok (.invokestatic 72, 3) := by decide +kernel
theorem dX5_lay_7 : decode cX5_lay 7 = .ok (.ifCond .ne 6, 3) := by decide +kernel
theorem dX5_lay_10 : decode cX5_lay 10 = .ok (.bipush (-2), 2) := by decide +kernel
theorem dX5_lay_12 : decode cX5_lay 12 = .ok (.ireturn, 1) := by decide +kernel
theorem dX5_lay_13 : decode cX5_lay 13 = .ok (.iload_n 1, 1) := by decide +kernel
theorem dX5_lay_14 : decode cX5_lay 14 = .ok (.ifCond .eq 8, 3) := by decide +kernel
theorem dX5_lay_17 : decode cX5_lay 17 = .ok (.bipush 68, 2) := by decide +kernel
theorem dX5_lay_19 : decode cX5_lay 19 = .ok (.goto 5, 3) := by decide +kernel
theorem dX5_lay_22 : decode cX5_lay 22 = .ok (.bipush 67, 2) := by decide +kernel
theorem dX5_lay_24 : decode cX5_lay 24 = .ok (.istore_n 3, 1) := by decide +kernel
theorem dX5_lay_25 : decode cX5_lay 25 = .ok (.aload_n 0, 1) := by decide +kernel
theorem dX5_lay_26 : decode cX5_lay 26 = .ok (.getfield 23, 3) := by decide +kernel
theorem dX5_lay_29 : decode cX5_lay 29 = .ok (.iload_n 3, 1) := by decide +kernel
theorem dX5_lay_30 : decode cX5_lay 30 = .ok (.iaload, 1) := by decide +kernel
theorem dX5_lay_31 : decode cX5_lay 31 = .ok (.iload_n 2, 1) := by decide +kernel
theorem dX5_lay_32 : decode cX5_lay 32 = .ok (.iadd, 1) := by decide +kernel
theorem dX5_lay_33 : decode cX5_lay 33 = .ok (.bipush 99, 2) := by decide +kernel
theorem dX5_lay_35 : decode cX5_lay 35 = .ok (.if_icmp .le 6, 3) := by decide +kernel
theorem dX5_lay_38 : decode cX5_lay 38 = .ok (.bipush (-4), 2) := by decide +kernel
theorem dX5_lay_40 : decode cX5_lay 40 = .ok (.ireturn, 1) := by decide +kernel
theorem dX5_lay_41 : decode cX5_lay 41 = .ok (.aload_n 0, 1) := by decide +kernel
theorem dX5_lay_42 : decode cX5_lay 42 = .ok (.invokevirtual 207, 3) := by decide +kernel
theorem dX5_lay_45 : decode cX5_lay 45 = .ok (.aload_n 0, 1) := by decide +kernel
theorem dX5_lay_46 : decode cX5_lay 46 = .ok (.getfield 23, 3) := by decide +kernel
theorem dX5_lay_49 : decode cX5_lay 49 = .ok (.iload_n 3, 1) := by decide +kernel
theorem dX5_lay_50 : decode cX5_lay 50 = .ok (.dup2, 1) := by decide +kernel
theorem dX5_lay_51 : decode cX5_lay 51 = .ok (.iaload, 1) := by decide +kernel
theorem dX5_lay_52 : decode cX5_lay 52 = .ok (.iload_n 2, 1) := by decide +kernel
theorem dX5_lay_53 : decode cX5_lay 53 = .ok (.iadd, 1) := by decide +kernel
theorem dX5_lay_54 : decode cX5_lay 54 = .ok (.iastore, 1) := by decide +kernel
theorem dX5_lay_55 : decode cX5_lay 55 = .ok (.aload_n 0, 1) := by decide +kernel
theorem dX5_lay_56 : decode cX5_lay 56 = .ok (.getfield 23, 3) := by decide +kernel
theorem dX5_lay_59 : decode cX5_lay 59 = .ok (.iload_n 3, 1) := by decide +kernel
theorem dX5_lay_60 : decode cX5_lay 60 = .ok (.iaload, 1) := by decide +kernel
theorem dX5_lay_61 : decode cX5_lay 61 = .ok (.ireturn, 1) := by decide +kernel
theorem dX5_set_0 : decode cX5_set 0 = .ok (.aload_n 0, 1) := by decide +kernel
theorem dX5_set_1 : decode cX5_set 1 = .ok (.iload_n 1, 1) := by decide +kernel
theorem dX5_set_2 : decode cX5_set 2 = .ok (.invokevirtual 201, 3) := by decide +kernel
theorem dX5_set_5 : decode cX5_set 5 = .ok (.ifCond .ne 5, 3) := by decide +kernel
theorem dX5_set_8 : decode cX5_set 8 = .ok (.iconst (-1), 1) := by decide +kernel
theorem dX5_set_9 : decode cX5_set 9 = .ok (.ireturn, 1) := by decide +kernel
theorem dX5_set_10 : decode cX5_set 10 = .ok (.iload_n 2, 1) := by decide +kernel
theorem dX5_set_11 : decode cX5_set 11 = .ok (.iconst 0, 1) := by decide +kernel
theorem dX5_set_12 : decode cX5_set 12 = .ok (.bipush 99, 2) := by decide +kernel
theorem dX5_set_14 : decode cX5_set 14 = .ok (.invokestatic 72, 3) := by decide +kernel
theorem dX5_set_17 : decode cX5_set 17 = .ok (.ifCond .ne 6, 3) := by decide +kernel
theorem dX5_set_20 : decode cX5_set 20 = .ok (.bipush (-2), 2) := by decide +kernel
theorem dX5_set_22 : decode cX5_set 22 = .ok (.ireturn, 1) := by decide +kernel
theorem dX5_set_23 : decode cX5_set 23 = .ok (.aload_n 0, 1) := by decide +kernel
theorem dX5_set_24 : decode cX5_set 24 = .ok (.invokevirtual 207, 3) := by decide +kernel
theorem dX5_set_27 : decode cX5_set 27 = .ok (.aload_n 0, 1) := by decide +kernel
theorem dX5_set_28 : decode cX5_set 28 = .ok (.getfield 23, 3) := by decide +kernel
theorem dX5_set_31 : decode cX5_set 31 = .ok (.bipush 63, 2) := by decide +kernel
theorem dX5_set_33 : decode cX5_set 33 = .ok (.iload_n 1, 1) := by decide +kernel
theorem dX5_set_34 : decode cX5_set 34 = .ok (.iadd, 1) := by decide +kernel
theorem dX5_set_35 : decode cX5_set 35 = .ok (.iaload, 1) := by decide +kernel
theorem dX5_set_36 : decode cX5_set 36 = .ok (.istore_n 3, 1) := by decide +kernel
theorem dX5_set_37 : decode cX5_set 37 = .ok (.aload_n 0, 1) := by decide +kernel
theorem dX5_set_38 : decode cX5_set 38 = .ok (.getfield 23, 3) := by decide +kernel
theorem dX5_set_41 : decode cX5_set 41 = .ok (.bipush 63, 2) := by decide +kernel
theorem dX5_set_43 : decode cX5_set 43 = .ok (.iload_n 1, 1) := by decide +kernel
theorem dX5_set_44 : decode cX5_set 44 = .ok (.iadd, 1) := by decide +kernel
theorem dX5_set_45 : decode cX5_set 45 = .ok (.iload_n 2, 1) := by decide +kernel
theorem dX5_set_46 : decode cX5_set 46 = .ok (.iastore, 1) := by decide +kernel
theorem dX5_set_47 : decode cX5_set 47 = .ok (.iload_n 3, 1) := by decide +kernel
theorem dX5_set_48 : decode cX5_set 48 = .ok (.ireturn, 1) := by decide +kernel
theorem dX5_come_0 : decode cX5_come 0 = .ok (.iload_n 1, 1) := by decide +kernel
theorem dX5_come_1 : decode cX5_come 1 = .ok (.iconst 0, 1) := by decide +kernel
theorem dX5_come_2 : decode cX5_come 2 = .ok (.iconst 2, 1) := by decide +kernel
theorem dX5_come_3 : decode cX5_come 3 = .ok (.invokestatic 72, 3) := by decide +kernel
theorem dX5_come_6 : decode cX5_come 6 = .ok (.ifCond .ne 6, 3) := by decide +kernel
theorem dX5_come_9 : decode cX5_come 9 = .ok (.bipush (-2), 2) := by decide +kernel
theorem dX5_come_11 : decode cX5_come 11 = .ok (.ireturn, 1) := by decide +kernel
theorem dX5_come_12 : decode cX5_come 12 = .ok (.aload_n 0, 1) := by decide +kernel
theorem dX5_come_13 : decode cX5_come 13 = .ok (.getfield 23, 3) := by decide +kernel
theorem dX5_come_16 : decode cX5_come 16 = .ok (.bipush 78, 2) := by decide +kernel
theorem dX5_come_18 : decode cX5_come 18 = .ok (.iaload, 1) := by decide +kernel
theorem dX5_come_19 : decode cX5_come 19 = .ok (.bipush 24, 2) := by decide +kernel
theorem dX5_come_21 : decode cX5_come 21 = .ok (.if_icmp .ne 6, 3) := by decide +kernel
theorem dX5_come_24 : decode cX5_come 24 = .ok (.bipush (-4), 2) := by decide +kernel
theorem dX5_come_26 : decode cX5_come 26 = .ok (.ireturn, 1) := by decide +kernel
theorem dX5_come_27 : decode cX5_come 27 = .ok (.aload_n 0, 1) := by decide +kernel
theorem dX5_come_28 : decode cX5_come 28 = .ok (.invokevirtual 207, 3) := by decide +kernel
theorem dX5_come_31 : decode cX5_come 31 = .ok (.aload_n 0, 1) := by decide +kernel
theorem dX5_come_32 : decode cX5_come 32 = .ok (.getfield 23, 3) := by decide +kernel
theorem dX5_come_35 : decode cX5_come 35 = .ok (.bipush 79, 2) := by decide +kernel
theorem dX5_come_37 : decode cX5_come 37 = .ok (.aload_n 0, 1) := by decide +kernel
theorem dX5_come_38 : decode cX5_come 38 = .ok (.getfield 23, 3) := by decide +kernel
theorem dX5_come_41 : decode cX5_come 41 = .ok (.bipush 78, 2) := by decide +kernel
theorem dX5_come_43 : decode cX5_come 43 = .ok (.iaload, 1) := by decide +kernel
theorem dX5_come_44 : decode cX5_come 44 = .ok (.iadd, 1) := by decide +kernel
theorem dX5_come_45 : decode cX5_come 45 = .ok (.iload_n 1, 1) := by decide +kernel
theorem dX5_come_46 : decode cX5_come 46 = .ok (.iastore, 1) := by decide +kernel
theorem dX5_come_47 : decode cX5_come 47 = .ok (.aload_n 0, 1) := by decide +kernel
theorem dX5_come_48 : decode cX5_come 48 = .ok (.getfield 23, 3) := by decide +kernel
theorem dX5_come_51 : decode cX5_come 51 = .ok (.bipush 78, 2) := by decide +kernel
theorem dX5_come_53 : decode cX5_come 53 = .ok (.dup2, 1) := by decide +kernel
theorem dX5_come_54 : decode cX5_come 54 = .ok (.iaload, 1) := by decide +kernel
theorem dX5_come_55 : decode cX5_come 55 = .ok (.iconst 1, 1) := by decide +kernel
theorem dX5_come_56 : decode cX5_come 56 = .ok (.iadd, 1) := by decide +kernel
theorem dX5_come_57 : decode cX5_come 57 = .ok (.iastore, 1) := by decide +kernel
theorem dX5_come_58 : decode cX5_come 58 = .ok (.aload_n 0, 1) := by decide +kernel
theorem dX5_come_59 : decode cX5_come 59 = .ok (.getfield 23, 3) := by decide +kernel
theorem dX5_come_62 : decode cX5_come 62 = .ok (.bipush 78, 2) := by decide +kernel
theorem dX5_come_64 : decode cX5_come 64 = .ok (.iaload, 1) := by decide +kernel
theorem dX5_come_65 : decode cX5_come 65 = .ok (.ireturn, 1) := by decide +kernel
theorem dX5_undo_0 : decode cX5_undo 0 = .ok (.aload_n 0, 1) := by decide +kernel
theorem dX5_undo_1 : decode cX5_undo 1 = .ok (.getfield 139, 3) := by decide +kernel
theorem dX5_undo_4 : decode cX5_undo 4 = .ok (.ifCond .ne 6, 3) := by decide +kernel
theorem dX5_undo_7 : decode cX5_undo 7 = .ok (.bipush (-3), 2) := by decide +kernel
theorem dX5_undo_9 : decode cX5_undo 9 = .ok (.ireturn, 1) := by decide +kernel
theorem dX5_undo_10 : decode cX5_undo 10 = .ok (.aload_n 0, 1) := by decide +kernel
theorem dX5_undo_11 : decode cX5_undo 11 = .ok (.dup, 1) := by decide +kernel
theorem dX5_undo_12 : decode cX5_undo 12 = .ok (.getfield 139, 3) := by decide +kernel
theorem dX5_undo_15 : decode cX5_undo 15 = .ok (.iconst 1, 1) := by decide +kernel
theorem dX5_undo_16 : decode cX5_undo 16 = .ok (.isub, 1) := by decide +kernel
theorem dX5_undo_17 : decode cX5_undo 17 = .ok (.putfield 139, 3) := by decide +kernel
theorem dX5_undo_20 : decode cX5_undo 20 = .ok (.aload_n 0, 1) := by decide +kernel
theorem dX5_undo_21 : decode cX5_undo 21 = .ok (.aload_n 0, 1) := by decide +kernel
theorem dX5_undo_22 : decode cX5_undo 22 = .ok (.getfield 204, 3) := by decide +kernel
theorem dX5_undo_25 : decode cX5_undo 25 = .ok (.bipush 14, 2) := by decide +kernel
theorem dX5_undo_27 : decode cX5_undo 27 = .ok (.iadd, 1) := by decide +kernel
theorem dX5_undo_28 : decode cX5_undo 28 = .ok (.iconst 1, 1) := by decide +kernel
theorem dX5_undo_29 : decode cX5_undo 29 = .ok (.isub, 1) := by decide +kernel
theorem dX5_undo_30 : decode cX5_undo 30 = .ok (.bipush 14, 2) := by decide +kernel
theorem dX5_undo_32 : decode cX5_undo 32 = .ok (.irem, 1) := by decide +kernel
theorem dX5_undo_33 : decode cX5_undo 33 = .ok (.putfield 204, 3) := by decide +kernel
theorem dX5_undo_36 : decode cX5_undo 36 = .ok (.iconst 0, 1) := by decide +kernel
theorem dX5_undo_37 : decode cX5_undo 37 = .ok (.istore_n 1, 1) := by decide +kernel
theorem dX5_undo_38 : decode cX5_undo 38 = .ok (.iload_n 1, 1) := by decide +kernel
theorem dX5_undo_39 : decode cX5_undo 39 = .ok (.bipush 103, 2) := by decide +kernel
theorem dX5_undo_41 : decode cX5_undo 41 = .ok (.if_icmp .ge 29, 3) := by decide +kernel
theorem dX5_undo_44 : decode cX5_undo 44 = .ok (.aload_n 0, 1) := by decide +kernel
theorem dX5_undo_45 : decode cX5_undo 45 = .ok (.getfield 23, 3) := by decide +kernel
theorem dX5_undo_48 : decode cX5_undo 48 = .ok (.iload_n 1, 1) := by decide +kernel
theorem dX5_undo_49 : decode cX5_undo 49 = .ok (.aload_n 0, 1) := by decide +kernel
theorem dX5_undo_50 : decode cX5_undo 50 = .ok (.getfield 29, 3) := by decide +kernel
theorem dX5_undo_53 : decode cX5_undo 53 = .ok (.bipush 103, 2) := by decide +kernel
theorem dX5_undo_55 : decode cX5_undo 55 = .ok (.aload_n 0, 1) := by decide +kernel
theorem dX5_undo_56 : decode cX5_undo 56 = .ok (.getfield 204, 3) := by decide +kernel
theorem dX5_undo_59 : decode cX5_undo 59 = .ok (.imul, 1) := by decide +kernel
theorem dX5_undo_60 : decode cX5_undo 60 = .ok (.iload_n 1, 1) := by decide +kernel
theorem dX5_undo_61 : decode cX5_undo 61 = .ok (.iadd, 1) := by decide +kernel
theorem dX5_undo_62 : decode cX5_undo 62 = .ok (.iaload, 1) := by decide +kernel
theorem dX5_undo_63 : decode cX5_undo 63 = .ok (.iastore, 1) := by decide +kernel
theorem dX5_undo_64 : decode cX5_undo 64 = .ok (.iinc 1 1, 3) := by decide +kernel
theorem dX5_undo_67 : decode cX5_undo 67 = .ok (.goto (-29), 3) := by decide +kernel
theorem dX5_undo_70 : decode cX5_undo 70 = .ok (.aload_n 0, 1) := by decide +kernel
theorem dX5_undo_71 : decode cX5_undo 71 = .ok (.getfield 139, 3) := by decide +kernel
theorem dX5_undo_74 : decode cX5_undo 74 = .ok (.ireturn, 1) := by decide +kernel
theorem dX5_ahead_0 : decode cX5_ahead 0 = .ok (.iload_n 1, 1) := by decide +kernel
theorem dX5_ahead_1 : decode cX5_ahead 1 = .ok (.iconst 0, 1) := by decide +kernel
theorem dX5_ahead_2 : decode cX5_ahead 2 = .ok (.bipush 99, 2) := by decide +kernel
theorem dX5_ahead_4 : decode cX5_ahead 4 = .ok (.invokestatic 72, 3) := by decide +kernel
theorem dX5_ahead_7 : decode cX5_ahead 7 = .ok (.ifCond .eq 13, 3) := by decide +kernel
theorem dX5_ahead_10 : decode cX5_ahead 10 = .ok (.iload_n 2, 1) := by decide +kernel
theorem dX5_ahead_11 : decode cX5_ahead 11 = .ok (.iconst 5, 1) := by decide +kernel
theorem dX5_ahead_12 : decode cX5_ahead 12 = .ok (.bipush 17, 2) := by decide +kernel
theorem dX5_ahead_14 : decode cX5_ahead 14 = .ok (.invokestatic 72, 3) := by decide +kernel
theorem dX5_ahead_17 : decode cX5_ahead 17 = .ok (.ifCond .ne 6, 3) := by decide +kernel
theorem dX5_ahead_20 : decode cX5_ahead 20 = .ok (.bipush (-2), 2) := by decide +kernel
theorem dX5_ahead_22 : decode cX5_ahead 22 = .ok (.ireturn, 1) := by decide +kernel
theorem dX5_ahead_23 : decode cX5_ahead 23 = .ok (.aload_n 0, 1) := by decide +kernel
theorem dX5_ahead_24 : decode cX5_ahead 24 = .ok (.getfield 23, 3) := by decide +kernel
theorem dX5_ahead_27 : decode cX5_ahead 27 = .ok (.aload_n 0, 1) := by decide +kernel
theorem dX5_ahead_28 : decode cX5_ahead 28 = .ok (.getfield 26, 3) := by decide +kernel
theorem dX5_ahead_31 : decode cX5_ahead 31 = .ok (.invokestatic 222, 3) := by decide +kernel
theorem dX5_ahead_34 : decode cX5_ahead 34 = .ok (.aload_n 0, 1) := by decide +kernel
theorem dX5_ahead_35 : decode cX5_ahead 35 = .ok (.aload_n 0, 1) := by decide +kernel
theorem dX5_ahead_36 : decode cX5_ahead 36 = .ok (.getfield 26, 3) := by decide +kernel
theorem dX5_ahead_39 : decode cX5_ahead 39 = .ok (.iload_n 1, 1) := by decide +kernel
theorem dX5_ahead_40 : decode cX5_ahead 40 = .ok (.invokevirtual 210, 3) := by decide +kernel
theorem dX5_ahead_43 : decode cX5_ahead 43 = .ok (.pop, 1) := by decide +kernel
theorem dX5_ahead_44 : decode cX5_ahead 44 = .ok (.aload_n 0, 1) := by decide +kernel
theorem dX5_ahead_45 : decode cX5_ahead 45 = .ok (.aload_n 0, 1) := by decide +kernel
theorem dX5_ahead_46 : decode cX5_ahead 46 = .ok (.getfield 26, 3) := by decide +kernel
theorem dX5_ahead_49 : decode cX5_ahead 49 = .ok (.iload_n 2, 1) := by decide +kernel
theorem dX5_ahead_50 : decode cX5_ahead 50 = .ok (.invokevirtual 194, 3) := by decide +kernel
theorem dX5_ahead_53 : decode cX5_ahead 53 = .ok (.ireturn, 1) := by decide +kernel
theorem dX5_goes_0 : decode cX5_goes 0 = .ok (.aload_n 0, 1) := by decide +kernel
theorem dX5_goes_1 : decode cX5_goes 1 = .ok (.iload_n 1, 1) := by decide +kernel
theorem dX5_goes_2 : decode cX5_goes 2 = .ok (.invokevirtual 198, 3) := by decide +kernel
theorem dX5_goes_5 : decode cX5_goes 5 = .ok (.ifCond .ne 5, 3) := by decide +kernel
theorem dX5_goes_8 : decode cX5_goes 8 = .ok (.iconst (-1), 1) := by decide +kernel
theorem dX5_goes_9 : decode cX5_goes 9 = .ok (.ireturn, 1) := by decide +kernel
theorem dX5_goes_10 : decode cX5_goes 10 = .ok (.iload_n 2, 1) := by decide +kernel
theorem dX5_goes_11 : decode cX5_goes 11 = .ok (.iconst 0, 1) := by decide +kernel
theorem dX5_goes_12 : decode cX5_goes 12 = .ok (.iconst 1, 1) := by decide +kernel
theorem dX5_goes_13 : decode cX5_goes 13 = .ok (.invokestatic 72, 3) := by decide +kernel
theorem dX5_goes_16 : decode cX5_goes 16 = .ok (.ifCond .ne 6, 3) := by decide +kernel
theorem dX5_goes_19 : decode cX5_goes 19 = .ok (.bipush (-2), 2) := by decide +kernel
theorem dX5_goes_21 : decode cX5_goes 21 = .ok (.ireturn, 1) := by decide +kernel
theorem dX5_goes_22 : decode cX5_goes 22 = .ok (.aload_n 0, 1) := by decide +kernel
theorem dX5_goes_23 : decode cX5_goes 23 = .ok (.getfield 23, 3) := by decide +kernel
theorem dX5_goes_26 : decode cX5_goes 26 = .ok (.iconst 0, 1) := by decide +kernel
theorem dX5_goes_27 : decode cX5_goes 27 = .ok (.iload_n 1, 1) := by decide +kernel
theorem dX5_goes_28 : decode cX5_goes 28 = .ok (.iadd, 1) := by decide +kernel
theorem dX5_goes_29 : decode cX5_goes 29 = .ok (.iaload, 1) := by decide +kernel
theorem dX5_goes_30 : decode cX5_goes 30 = .ok (.ifCond .ne 6, 3) := by decide +kernel
theorem dX5_goes_33 : decode cX5_goes 33 = .ok (.bipush (-3), 2) := by decide +kernel
theorem dX5_goes_35 : decode cX5_goes 35 = .ok (.ireturn, 1) := by decide +kernel
theorem dX5_goes_36 : decode cX5_goes 36 = .ok (.aload_n 0, 1) := by decide +kernel
theorem dX5_goes_37 : decode cX5_goes 37 = .ok (.getfield 23, 3) := by decide +kernel
theorem dX5_goes_40 : decode cX5_goes 40 = .ok (.aload_n 0, 1) := by decide +kernel
theorem dX5_goes_41 : decode cX5_goes 41 = .ok (.getfield 26, 3) := by decide +kernel
theorem dX5_goes_44 : decode cX5_goes 44 = .ok (.invokestatic 222, 3) := by decide +kernel
theorem dX5_goes_47 : decode cX5_goes 47 = .ok (.aload_n 0, 1) := by decide +kernel
theorem dX5_goes_48 : decode cX5_goes 48 = .ok (.iload_n 1, 1) := by decide +kernel
theorem dX5_goes_49 : decode cX5_goes 49 = .ok (.putfield 69, 3) := by decide +kernel
theorem dX5_goes_52 : decode cX5_goes 52 = .ok (.aload_n 0, 1) := by decide +kernel
theorem dX5_goes_53 : decode cX5_goes 53 = .ok (.bipush (-9), 2) := by decide +kernel
theorem dX5_goes_55 : decode cX5_goes 55 = .ok (.putfield 146, 3) := by decide +kernel
theorem dX5_goes_58 : decode cX5_goes 58 = .ok (.iconst 0, 1) := by decide +kernel
theorem dX5_goes_59 : decode cX5_goes 59 = .ok (.istore_n 3, 1) := by decide +kernel
theorem dX5_goes_60 : decode cX5_goes 60 = .ok (.iload_n 3, 1) := by decide +kernel
theorem dX5_goes_61 : decode cX5_goes 61 = .ok (.bipush 60, 2) := by decide +kernel
theorem dX5_goes_63 : decode cX5_goes 63 = .ok (.if_icmp .ge 38, 3) := by decide +kernel
theorem dX5_goes_66 : decode cX5_goes 66 = .ok (.aload_n 0, 1) := by decide +kernel
theorem dX5_goes_67 : decode cX5_goes 67 = .ok (.getfield 69, 3) := by decide +kernel
theorem dX5_goes_70 : decode cX5_goes 70 = .ok (.bipush (-9), 2) := by decide +kernel
theorem dX5_goes_72 : decode cX5_goes 72 = .ok (.if_icmp .eq 29, 3) := by decide +kernel
theorem dX5_goes_75 : decode cX5_goes 75 = .ok (.aload_n 0, 1) := by decide +kernel
theorem dX5_goes_76 : decode cX5_goes 76 = .ok (.getfield 26, 3) := by decide +kernel
theorem dX5_goes_79 : decode cX5_goes 79 = .ok (.bipush 70, 2) := by decide +kernel
theorem dX5_goes_81 : decode cX5_goes 81 = .ok (.iaload, 1) := by decide +kernel
theorem dX5_goes_82 : decode cX5_goes 82 = .ok (.ifCond .ne 19, 3) := by decide +kernel
theorem dX5_goes_85 : decode cX5_goes 85 = .ok (.aload_n 0, 1) := by decide +kernel
theorem dX5_goes_86 : decode cX5_goes 86 = .ok (.aload_n 0, 1) := by decide +kernel
theorem dX5_goes_87 : decode cX5_goes 87 = .ok (.getfield 26, 3) := by decide +kernel
theorem dX5_goes_90 : decode cX5_goes 90 = .ok (.iconst 1, 1) := by decide +kernel
theorem dX5_goes_91 : decode cX5_goes 91 = .ok (.invokevirtual 210, 3) := by decide +kernel
theorem dX5_goes_94 : decode cX5_goes 94 = .ok (.pop, 1) := by decide +kernel
theorem dX5_goes_95 : decode cX5_goes 95 = .ok (.iinc 3 1, 3) := by decide +kernel
theorem dX5_goes_98 : decode cX5_goes 98 = .ok (.goto (-38), 3) := by decide +kernel
theorem dX5_goes_101 : decode cX5_goes 101 = .ok (.aload_n 0, 1) := by decide +kernel
theorem dX5_goes_102 : decode cX5_goes 102 = .ok (.getfield 69, 3) := by decide +kernel
theorem dX5_goes_105 : decode cX5_goes 105 = .ok (.bipush (-9), 2) := by decide +kernel
theorem dX5_goes_107 : decode cX5_goes 107 = .ok (.if_icmp .ne 7, 3) := by decide +kernel
theorem dX5_goes_110 : decode cX5_goes 110 = .ok (.iconst 1, 1) := by decide +kernel
theorem dX5_goes_111 : decode cX5_goes 111 = .ok (.goto 4, 3) := by decide +kernel
theorem dX5_goes_114 : decode cX5_goes 114 = .ok (.iconst 0, 1) := by decide +kernel
theorem dX5_goes_115 : decode cX5_goes 115 = .ok (.istore 4, 2) := by decide +kernel
theorem dX5_goes_117 : decode cX5_goes 117 = .ok (.aload_n 0, 1) := by decide +kernel
theorem dX5_goes_118 : decode cX5_goes 118 = .ok (.bipush (-9), 2) := by decide +kernel
theorem dX5_goes_120 : decode cX5_goes 120 = .ok (.putfield 69, 3) := by decide +kernel
theorem dX5_goes_123 : decode cX5_goes 123 = .ok (.iload 4, 2) := by decide +kernel
theorem dX5_goes_125 : decode cX5_goes 125 = .ok (.ifCond .ne 8, 3) := by decide +kernel
theorem dX5_goes_128 : decode cX5_goes 128 = .ok (.bipush (-9), 2) := by decide +kernel
theorem dX5_goes_130 : decode cX5_goes 130 = .ok (.goto 15, 3) := by decide +kernel
theorem dX5_goes_133 : decode cX5_goes 133 = .ok (.iload_n 2, 1) := by decide +kernel
theorem dX5_goes_134 : decode cX5_goes 134 = .ok (.ifCond .ne 7, 3) := by decide +kernel
theorem dX5_goes_137 : decode cX5_goes 137 = .ok (.iload_n 3, 1) := by decide +kernel
theorem dX5_goes_138 : decode cX5_goes 138 = .ok (.goto 7, 3) := by decide +kernel
theorem dX5_goes_141 : decode cX5_goes 141 = .ok (.aload_n 0, 1) := by decide +kernel
theorem dX5_goes_142 : decode cX5_goes 142 = .ok (.getfield 146, 3) := by decide +kernel
theorem dX5_goes_145 : decode cX5_goes 145 = .ok (.ireturn, 1) := by decide +kernel
theorem dX5_best_0 : decode cX5_best 0 = .ok (.aload_n 0, 1) := by decide +kernel
theorem dX5_best_1 : decode cX5_best 1 = .ok (.iload_n 1, 1) := by decide +kernel
theorem dX5_best_2 : decode cX5_best 2 = .ok (.invokevirtual 201, 3) := by decide +kernel
theorem dX5_best_5 : decode cX5_best 5 = .ok (.ifCond .ne 5, 3) := by decide +kernel
theorem dX5_best_8 : decode cX5_best 8 = .ok (.iconst (-1), 1) := by decide +kernel
theorem dX5_best_9 : decode cX5_best 9 = .ok (.ireturn, 1) := by decide +kernel
theorem dX5_best_10 : decode cX5_best 10 = .ok (.iconst 0, 1) := by decide +kernel
theorem dX5_best_11 : decode cX5_best 11 = .ok (.istore_n 2, 1) := by decide +kernel
theorem dX5_best_12 : decode cX5_best 12 = .ok (.iconst (-1), 1) := by decide +kernel
theorem dX5_best_13 : decode cX5_best 13 = .ok (.istore_n 3, 1) := by decide +kernel
theorem dX5_best_14 : decode cX5_best 14 = .ok (.iconst 0, 1) := by decide +kernel
theorem dX5_best_15 : decode cX5_best 15 = .ok (.istore 4, 2) := by decide +kernel
theorem dX5_best_17 : decode cX5_best 17 = .ok (.iload 4, 2) := by decide +kernel
theorem dX5_best_19 : decode cX5_best 19 = .ok (.bipush 100, 2) := by decide +kernel
theorem dX5_best_21 : decode cX5_best 21 = .ok (.if_icmp .ge 83, 3) := by decide +kernel
theorem dX5_best_24 : decode cX5_best 24 = .ok (.aload_n 0, 1) := by decide +kernel
theorem dX5_best_25 : decode cX5_best 25 = .ok (.getfield 23, 3) := by decide +kernel
theorem dX5_best_28 : decode cX5_best 28 = .ok (.aload_n 0, 1) := by decide +kernel
theorem dX5_best_29 : decode cX5_best 29 = .ok (.getfield 26, 3) := by decide +kernel
theorem dX5_best_32 : decode cX5_best 32 = .ok (.invokestatic 222, 3) := by decide +kernel
theorem dX5_best_35 : decode cX5_best 35 = .ok (.aload_n 0, 1) := by decide +kernel
theorem dX5_best_36 : decode cX5_best 36 = .ok (.getfield 26, 3) := by decide +kernel
theorem dX5_best_39 : decode cX5_best 39 = .ok (.bipush 63, 2) := by decide +kernel
theorem dX5_best_41 : decode cX5_best 41 = .ok (.iload_n 1, 1) := by decide +kernel
theorem dX5_best_42 : decode cX5_best 42 = .ok (.iadd, 1) := by decide +kernel
theorem dX5_best_43 : decode cX5_best 43 = .ok (.iload 4, 2) := by decide +kernel
theorem dX5_best_45 : decode cX5_best 45 = .ok (.iastore, 1) := by decide +kernel
theorem dX5_best_46 : decode cX5_best 46 = .ok (.aload_n 0, 1) := by decide +kernel
theorem dX5_best_47 : decode cX5_best 47 = .ok (.aload_n 0, 1) := by decide +kernel
theorem dX5_best_48 : decode cX5_best 48 = .ok (.getfield 26, 3) := by decide +kernel
theorem dX5_best_51 : decode cX5_best 51 = .ok (.bipush 30, 2) := by decide +kernel
theorem dX5_best_53 : decode cX5_best 53 = .ok (.invokevirtual 210, 3) := by decide +kernel
theorem dX5_best_56 : decode cX5_best 56 = .ok (.pop, 1) := by decide +kernel
theorem dX5_best_57 : decode cX5_best 57 = .ok (.aload_n 0, 1) := by decide +kernel
theorem dX5_best_58 : decode cX5_best 58 = .ok (.getfield 26, 3) := by decide +kernel
theorem dX5_best_61 : decode cX5_best 61 = .ok (.bipush 72, 2) := by decide +kernel
theorem dX5_best_63 : decode cX5_best 63 = .ok (.iaload, 1) := by decide +kernel
theorem dX5_best_64 : decode cX5_best 64 = .ok (.iload_n 3, 1) := by decide +kernel
theorem dX5_best_65 : decode cX5_best 65 = .ok (.if_icmp .le 8, 3) := by decide +kernel
theorem dX5_best_68 : decode cX5_best 68 = .ok (.iload 4, 2) := by decide +kernel
theorem dX5_best_70 : decode cX5_best 70 = .ok (.goto 4, 3) := by decide +kernel
theorem dX5_best_73 : decode cX5_best 73 = .ok (.iload_n 2, 1) := by decide +kernel
theorem dX5_best_74 : decode cX5_best 74 = .ok (.istore_n 2, 1) := by decide +kernel
theorem dX5_best_75 : decode cX5_best 75 = .ok (.aload_n 0, 1) := by decide +kernel
theorem dX5_best_76 : decode cX5_best 76 = .ok (.getfield 26, 3) := by decide +kernel
theorem dX5_best_79 : decode cX5_best 79 = .ok (.bipush 72, 2) := by decide +kernel
theorem dX5_best_81 : decode cX5_best 81 = .ok (.iaload, 1) := by decide +kernel
theorem dX5_best_82 : decode cX5_best 82 = .ok (.iload_n 3, 1) := by decide +kernel
theorem dX5_best_83 : decode cX5_best 83 = .ok (.if_icmp .le 13, 3) := by decide +kernel
theorem dX5_best_86 : decode cX5_best 86 = .ok (.aload_n 0, 1) := by decide +kernel
theorem dX5_best_87 : decode cX5_best 87 = .ok (.getfield 26, 3) := by decide +kernel
theorem dX5_best_90 : decode cX5_best 90 = .ok (.bipush 72, 2) := by decide +kernel
theorem dX5_best_92 : decode cX5_best 92 = .ok (.iaload, 1) := by decide +kernel
theorem dX5_best_93 : decode cX5_best 93 = .ok (.goto 4, 3) := by decide +kernel
theorem dX5_best_96 : decode cX5_best 96 = .ok (.iload_n 3, 1) := by decide +kernel
theorem dX5_best_97 : decode cX5_best 97 = .ok (.istore_n 3, 1) := by decide +kernel
theorem dX5_best_98 : decode cX5_best 98 = .ok (.iinc 4 1, 3) := by decide +kernel
theorem dX5_best_101 : decode cX5_best 101 = .ok (.goto (-84), 3) := by decide +kernel
theorem dX5_best_104 : decode cX5_best 104 = .ok (.iload_n 2, 1) := by decide +kernel
theorem dX5_best_105 : decode cX5_best 105 = .ok (.ireturn, 1) := by decide +kernel
theorem dX5_outWith_0 : decode cX5_outWith 0 = .ok (.aload_n 0, 1) := by decide +kernel
theorem dX5_outWith_1 : decode cX5_outWith 1 = .ok (.getfield 23, 3) := by decide +kernel
theorem dX5_outWith_4 : decode cX5_outWith 4 = .ok (.aload_n 0, 1) := by decide +kernel
theorem dX5_outWith_5 : decode cX5_outWith 5 = .ok (.getfield 26, 3) := by decide +kernel
theorem dX5_outWith_8 : decode cX5_outWith 8 = .ok (.invokestatic 222, 3) := by decide +kernel
theorem dX5_outWith_11 : decode cX5_outWith 11 = .ok (.aload_n 0, 1) := by decide +kernel
theorem dX5_outWith_12 : decode cX5_outWith 12 = .ok (.getfield 26, 3) := by decide +kernel
theorem dX5_outWith_15 : decode cX5_outWith 15 = .ok (.iload_n 1, 1) := by decide +kernel
theorem dX5_outWith_16 : decode cX5_outWith 16 = .ok (.aload_n 0, 1) := by decide +kernel
theorem dX5_outWith_17 : decode cX5_outWith 17 = .ok (.getfield 26, 3) := by decide +kernel
theorem dX5_outWith_20 : decode cX5_outWith 20 = .ok (.iload_n 1, 1) := by decide +kernel
theorem dX5_outWith_21 : decode cX5_outWith 21 = .ok (.iaload, 1) := by decide +kernel
theorem dX5_outWith_22 : decode cX5_outWith 22 = .ok (.iload_n 2, 1) := by decide +kernel
theorem dX5_outWith_23 : decode cX5_outWith 23 = .ok (.iadd, 1) := by decide +kernel
theorem dX5_outWith_24 : decode cX5_outWith 24 = .ok (.invokestatic 160, 3) := by decide +kernel
theorem dX5_outWith_27 : decode cX5_outWith 27 = .ok (.iastore, 1) := by decide +kernel
theorem dX5_outWith_28 : decode cX5_outWith 28 = .ok (.aload_n 0, 1) := by decide +kernel
theorem dX5_outWith_29 : decode cX5_outWith 29 = .ok (.aload_n 0, 1) := by decide +kernel
theorem dX5_outWith_30 : decode cX5_outWith 30 = .ok (.getfield 26, 3) := by decide +kernel
theorem dX5_outWith_33 : decode cX5_outWith 33 = .ok (.bipush 40, 2) := by decide +kernel
theorem dX5_outWith_35 : decode cX5_outWith 35 = .ok (.invokevirtual 210, 3) := by decide +kernel
theorem dX5_outWith_38 : decode cX5_outWith 38 = .ok (.pop, 1) := by decide +kernel
theorem dX5_outWith_39 : decode cX5_outWith 39 = .ok (.aload_n 0, 1) := by decide +kernel
theorem dX5_outWith_40 : decode cX5_outWith 40 = .ok (.getfield 26, 3) := by decide +kernel
theorem dX5_outWith_43 : decode cX5_outWith 43 = .ok (.bipush 72, 2) := by decide +kernel
theorem dX5_outWith_45 : decode cX5_outWith 45 = .ok (.iaload, 1) := by decide +kernel
theorem dX5_outWith_46 : decode cX5_outWith 46 = .ok (.ireturn, 1) := by decide +kernel
theorem dX5_needs_0 : decode cX5_needs 0 = .ok (.iload_n 1, 1) := by decide +kernel
theorem dX5_needs_1 : decode cX5_needs 1 = .ok (.ifCond .eq 8, 3) := by decide +kernel
theorem dX5_needs_4 : decode cX5_needs 4 = .ok (.bipush 68, 2) := by decide +kernel
theorem dX5_needs_6 : decode cX5_needs 6 = .ok (.goto 5, 3) := by decide +kernel
theorem dX5_needs_9 : decode cX5_needs 9 = .ok (.bipush 67, 2) := by decide +kernel
theorem dX5_needs_11 : decode cX5_needs 11 = .ok (.istore_n 2, 1) := by decide +kernel
theorem dX5_needs_12 : decode cX5_needs 12 = .ok (.aload_n 0, 1) := by decide +kernel
theorem dX5_needs_13 : decode cX5_needs 13 = .ok (.iload_n 2, 1) := by decide +kernel
theorem dX5_needs_14 : decode cX5_needs 14 = .ok (.bipush 40, 2) := by decide +kernel
theorem dX5_needs_16 : decode cX5_needs 16 = .ok (.invokevirtual 226, 3) := by decide +kernel
theorem dX5_needs_19 : decode cX5_needs 19 = .ok (.istore_n 3, 1) := by decide +kernel
theorem dX5_needs_20 : decode cX5_needs 20 = .ok (.iconst 0, 1) := by decide +kernel
theorem dX5_needs_21 : decode cX5_needs 21 = .ok (.istore 4, 2) := by decide +kernel
theorem dX5_needs_23 : decode cX5_needs 23 = .ok (.aload_n 0, 1) := by decide +kernel
theorem dX5_needs_24 : decode cX5_needs 24 = .ok (.iload_n 2, 1) := by decide +kernel
theorem dX5_needs_25 : decode cX5_needs 25 = .ok (.iload 4, 2) := by decide +kernel
theorem dX5_needs_27 : decode cX5_needs 27 = .ok (.invokevirtual 226, 3) := by decide +kernel
theorem dX5_needs_30 : decode cX5_needs 30 = .ok (.iload_n 3, 1) := by decide +kernel
theorem dX5_needs_31 : decode cX5_needs 31 = .ok (.if_icmp .eq 9, 3) := by decide +kernel
theorem dX5_needs_34 : decode cX5_needs 34 = .ok (.iinc 4 1, 3) := by decide +kernel
theorem dX5_needs_37 : decode cX5_needs 37 = .ok (.goto (-14), 3) := by decide +kernel
theorem dX5_needs_40 : decode cX5_needs 40 = .ok (.iload 4, 2) := by decide +kernel
theorem dX5_needs_42 : decode cX5_needs 42 = .ok (.ireturn, 1) := by decide +kernel
theorem dX5_judged_0 : decode cX5_judged 0 = .ok (.iload_n 2, 1) := by decide +kernel
theorem dX5_judged_1 : decode cX5_judged 1 = .ok (.ifCond .ne 11, 3) := by decide +kernel
theorem dX5_judged_4 : decode cX5_judged 4 = .ok (.iload_n 3, 1) := by decide +kernel
theorem dX5_judged_5 : decode cX5_judged 5 = .ok (.ifCond .ne 7, 3) := by decide +kernel
theorem dX5_judged_8 : decode cX5_judged 8 = .ok (.iconst 1, 1) := by decide +kernel
theorem dX5_judged_9 : decode cX5_judged 9 = .ok (.goto 4, 3) := by decide +kernel
theorem dX5_judged_12 : decode cX5_judged 12 = .ok (.iconst 0, 1) := by decide +kernel
theorem dX5_judged_13 : decode cX5_judged 13 = .ok (.istore 4, 2) := by decide +kernel
theorem dX5_judged_15 : decode cX5_judged 15 = .ok (.bipush 10, 2) := by decide +kernel
theorem dX5_judged_17 : decode cX5_judged 17 = .ok (.iload_n 2, 1) := by decide +kernel
theorem dX5_judged_18 : decode cX5_judged 18 = .ok (.imul, 1) := by decide +kernel
theorem dX5_judged_19 : decode cX5_judged 19 = .ok (.iload_n 3, 1) := by decide +kernel
theorem dX5_judged_20 : decode cX5_judged 20 = .ok (.iadd, 1) := by decide +kernel
theorem dX5_judged_21 : decode cX5_judged 21 = .ok (.istore 5, 2) := by decide +kernel
theorem dX5_judged_23 : decode cX5_judged 23 = .ok (.iload_n 1, 1) := by decide +kernel
theorem dX5_judged_24 : decode cX5_judged 24 = .ok (.tableswitch 304 1 9 #[52, 78, 94, 128, 156, 172, 206, 224, 251], 52) := by decide +kernel
theorem dX5_judged_76 : decode cX5_judged 76 = .ok (.iload 5, 2) := by decide +kernel
theorem dX5_judged_78 : decode cX5_judged 78 = .ok (.ifCond .le 22, 3) := by decide +kernel
theorem dX5_judged_81 : decode cX5_judged 81 = .ok (.aload_n 0, 1) := by decide +kernel
theorem dX5_judged_82 : decode cX5_judged 82 = .ok (.aload_n 0, 1) := by decide +kernel
theorem dX5_judged_83 : decode cX5_judged 83 = .ok (.getfield 26, 3) := by decide +kernel
theorem dX5_judged_86 : decode cX5_judged 86 = .ok (.iload 5, 2) := by decide +kernel
theorem dX5_judged_88 : decode cX5_judged 88 = .ok (.invokevirtual 210, 3) := by decide +kernel
theorem dX5_judged_91 : decode cX5_judged 91 = .ok (.iload 5, 2) := by decide +kernel
theorem dX5_judged_93 : decode cX5_judged 93 = .ok (.if_icmp .ne 7, 3) := by decide +kernel
theorem dX5_judged_96 : decode cX5_judged 96 = .ok (.iconst 1, 1) := by decide +kernel
theorem dX5_judged_97 : decode cX5_judged 97 = .ok (.goto 4, 3) := by decide +kernel
theorem dX5_judged_100 : decode cX5_judged 100 = .ok (.iconst 0, 1) := by decide +kernel
theorem dX5_judged_101 : decode cX5_judged 101 = .ok (.ireturn, 1) := by decide +kernel
theorem dX5_judged_102 : decode cX5_judged 102 = .ok (.iload 4, 2) := by decide +kernel
theorem dX5_judged_104 : decode cX5_judged 104 = .ok (.ifCond .eq 11, 3) := by decide +kernel
theorem dX5_judged_107 : decode cX5_judged 107 = .ok (.aload_n 0, 1) := by decide +kernel
theorem dX5_judged_108 : decode cX5_judged 108 = .ok (.aload_n 0, 1) := by decide +kernel
theorem dX5_judged_109 : decode cX5_judged 109 = .ok (.getfield 26, 3) := by decide +kernel
theorem dX5_judged_112 : decode cX5_judged 112 = .ok (.invokevirtual 153, 3) := by decide +kernel
theorem dX5_judged_115 : decode cX5_judged 115 = .ok (.iload 4, 2) := by decide +kernel
theorem dX5_judged_117 : decode cX5_judged 117 = .ok (.ireturn, 1) := by decide +kernel
theorem dX5_judged_118 : decode cX5_judged 118 = .ok (.aload_n 0, 1) := by decide +kernel
theorem dX5_judged_119 : decode cX5_judged 119 = .ok (.getfield 26, 3) := by decide +kernel
theorem dX5_judged_122 : decode cX5_judged 122 = .ok (.bipush 69, 2) := by decide +kernel
theorem dX5_judged_124 : decode cX5_judged 124 = .ok (.iload 4, 2) := by decide +kernel
theorem dX5_judged_126 : decode cX5_judged 126 = .ok (.ifCond .eq 15, 3) := by decide +kernel
theorem dX5_judged_129 : decode cX5_judged 129 = .ok (.iconst 1, 1) := by decide +kernel
theorem dX5_judged_130 : decode cX5_judged 130 = .ok (.aload_n 0, 1) := by decide +kernel
theorem dX5_judged_131 : decode cX5_judged 131 = .ok (.getfield 26, 3) := by decide +kernel
theorem dX5_judged_134 : decode cX5_judged 134 = .ok (.bipush 69, 2) := by decide +kernel
theorem dX5_judged_136 : decode cX5_judged 136 = .ok (.iaload, 1) := by decide +kernel
theorem dX5_judged_137 : decode cX5_judged 137 = .ok (.isub, 1) := by decide +kernel
theorem dX5_judged_138 : decode cX5_judged 138 = .ok (.goto 10, 3) := by decide +kernel
theorem dX5_judged_141 : decode cX5_judged 141 = .ok (.aload_n 0, 1) := by decide +kernel
theorem dX5_judged_142 : decode cX5_judged 142 = .ok (.getfield 26, 3) := by decide +kernel
theorem dX5_judged_145 : decode cX5_judged 145 = .ok (.bipush 69, 2) := by decide +kernel
theorem dX5_judged_147 : decode cX5_judged 147 = .ok (.iaload, 1) := by decide +kernel
theorem dX5_judged_148 : decode cX5_judged 148 = .ok (.iastore, 1) := by decide +kernel
theorem dX5_judged_149 : decode cX5_judged 149 = .ok (.iload 4, 2) := by decide +kernel
theorem dX5_judged_151 : decode cX5_judged 151 = .ok (.ireturn, 1) := by decide +kernel
theorem dX5_judged_152 : decode cX5_judged 152 = .ok (.iload 4, 2) := by decide +kernel
theorem dX5_judged_154 : decode cX5_judged 154 = .ok (.ifCond .eq 13, 3) := by decide +kernel
theorem dX5_judged_157 : decode cX5_judged 157 = .ok (.aload_n 0, 1) := by decide +kernel
theorem dX5_judged_158 : decode cX5_judged 158 = .ok (.getfield 26, 3) := by decide +kernel
theorem dX5_judged_161 : decode cX5_judged 161 = .ok (.bipush 70, 2) := by decide +kernel
theorem dX5_judged_163 : decode cX5_judged 163 = .ok (.iaload, 1) := by decide +kernel
theorem dX5_judged_164 : decode cX5_judged 164 = .ok (.ifCond .ne 5, 3) := by decide +kernel
theorem dX5_judged_167 : decode cX5_judged 167 = .ok (.iconst 0, 1) := by decide +kernel
theorem dX5_judged_168 : decode cX5_judged 168 = .ok (.ireturn, 1) := by decide +kernel
theorem dX5_judged_169 : decode cX5_judged 169 = .ok (.aload_n 0, 1) := by decide +kernel
theorem dX5_judged_170 : decode cX5_judged 170 = .ok (.aload_n 0, 1) := by decide +kernel
theorem dX5_judged_171 : decode cX5_judged 171 = .ok (.getfield 26, 3) := by decide +kernel
theorem dX5_judged_174 : decode cX5_judged 174 = .ok (.invokevirtual 216, 3) := by decide +kernel
theorem dX5_judged_177 : decode cX5_judged 177 = .ok (.pop, 1) := by decide +kernel
theorem dX5_judged_178 : decode cX5_judged 178 = .ok (.iconst 1, 1) := by decide +kernel
theorem dX5_judged_179 : decode cX5_judged 179 = .ok (.ireturn, 1) := by decide +kernel
theorem dX5_judged_180 : decode cX5_judged 180 = .ok (.iload 4, 2) := by decide +kernel
theorem dX5_judged_182 : decode cX5_judged 182 = .ok (.ifCond .eq 11, 3) := by decide +kernel
theorem dX5_judged_185 : decode cX5_judged 185 = .ok (.aload_n 0, 1) := by decide +kernel
theorem dX5_judged_186 : decode cX5_judged 186 = .ok (.aload_n 0, 1) := by decide +kernel
theorem dX5_judged_187 : decode cX5_judged 187 = .ok (.getfield 26, 3) := by decide +kernel
theorem dX5_judged_190 : decode cX5_judged 190 = .ok (.invokevirtual 219, 3) := by decide +kernel
theorem dX5_judged_193 : decode cX5_judged 193 = .ok (.iload 4, 2) := by decide +kernel
theorem dX5_judged_195 : decode cX5_judged 195 = .ok (.ireturn, 1) := by decide +kernel
theorem dX5_judged_196 : decode cX5_judged 196 = .ok (.aload_n 0, 1) := by decide +kernel
theorem dX5_judged_197 : decode cX5_judged 197 = .ok (.iload_n 2, 1) := by decide +kernel
theorem dX5_judged_198 : decode cX5_judged 198 = .ok (.invokevirtual 201, 3) := by decide +kernel
theorem dX5_judged_201 : decode cX5_judged 201 = .ok (.ifCond .eq 27, 3) := by decide +kernel
theorem dX5_judged_204 : decode cX5_judged 204 = .ok (.iload_n 3, 1) := by decide +kernel
theorem dX5_judged_205 : decode cX5_judged 205 = .ok (.ifCond .ne 23, 3) := by decide +kernel
theorem dX5_judged_208 : decode cX5_judged 208 = .ok (.aload_n 0, 1) := by decide +kernel
theorem dX5_judged_209 : decode cX5_judged 209 = .ok (.getfield 26, 3) := by decide +kernel
theorem dX5_judged_212 : decode cX5_judged 212 = .ok (.bipush 71, 2) := by decide +kernel
theorem dX5_judged_214 : decode cX5_judged 214 = .ok (.iaload, 1) := by decide +kernel
theorem dX5_judged_215 : decode cX5_judged 215 = .ok (.aload_n 0, 1) := by decide +kernel
theorem dX5_judged_216 : decode cX5_judged 216 = .ok (.getfield 76, 3) := by decide +kernel
theorem dX5_judged_219 : decode cX5_judged 219 = .ok (.irem, 1) := by decide +kernel
theorem dX5_judged_220 : decode cX5_judged 220 = .ok (.iload_n 2, 1) := by decide +kernel
theorem dX5_judged_221 : decode cX5_judged 221 = .ok (.if_icmp .ne 7, 3) := by decide +kernel
theorem dX5_judged_224 : decode cX5_judged 224 = .ok (.iconst 1, 1) := by decide +kernel
theorem dX5_judged_225 : decode cX5_judged 225 = .ok (.goto 4, 3) := by decide +kernel
theorem dX5_judged_228 : decode cX5_judged 228 = .ok (.iconst 0, 1) := by decide +kernel
theorem dX5_judged_229 : decode cX5_judged 229 = .ok (.ireturn, 1) := by decide +kernel
theorem dX5_judged_230 : decode cX5_judged 230 = .ok (.aload_n 0, 1) := by decide +kernel
theorem dX5_judged_231 : decode cX5_judged 231 = .ok (.getfield 26, 3) := by decide +kernel
theorem dX5_judged_234 : decode cX5_judged 234 = .ok (.bipush 72, 2) := by decide +kernel
theorem dX5_judged_236 : decode cX5_judged 236 = .ok (.iaload, 1) := by decide +kernel
theorem dX5_judged_237 : decode cX5_judged 237 = .ok (.iload 5, 2) := by decide +kernel
theorem dX5_judged_239 : decode cX5_judged 239 = .ok (.if_icmp .ne 7, 3) := by decide +kernel
theorem dX5_judged_242 : decode cX5_judged 242 = .ok (.iconst 1, 1) := by decide +kernel
theorem dX5_judged_243 : decode cX5_judged 243 = .ok (.goto 4, 3) := by decide +kernel
theorem dX5_judged_246 : decode cX5_judged 246 = .ok (.iconst 0, 1) := by decide +kernel
theorem dX5_judged_247 : decode cX5_judged 247 = .ok (.ireturn, 1) := by decide +kernel
theorem dX5_judged_248 : decode cX5_judged 248 = .ok (.aload_n 0, 1) := by decide +kernel
theorem dX5_judged_249 : decode cX5_judged 249 = .ok (.iload_n 2, 1) := by decide +kernel
theorem dX5_judged_250 : decode cX5_judged 250 = .ok (.invokevirtual 198, 3) := by decide +kernel
theorem dX5_judged_253 : decode cX5_judged 253 = .ok (.ifCond .eq 20, 3) := by decide +kernel
theorem dX5_judged_256 : decode cX5_judged 256 = .ok (.aload_n 0, 1) := by decide +kernel
theorem dX5_judged_257 : decode cX5_judged 257 = .ok (.getfield 26, 3) := by decide +kernel
theorem dX5_judged_260 : decode cX5_judged 260 = .ok (.bipush 54, 2) := by decide +kernel
theorem dX5_judged_262 : decode cX5_judged 262 = .ok (.iload_n 2, 1) := by decide +kernel
theorem dX5_judged_263 : decode cX5_judged 263 = .ok (.iadd, 1) := by decide +kernel
theorem dX5_judged_264 : decode cX5_judged 264 = .ok (.iaload, 1) := by decide +kernel
theorem dX5_judged_265 : decode cX5_judged 265 = .ok (.iload_n 3, 1) := by decide +kernel
theorem dX5_judged_266 : decode cX5_judged 266 = .ok (.if_icmp .ne 7, 3) := by decide +kernel
theorem dX5_judged_269 : decode cX5_judged 269 = .ok (.iconst 1, 1) := by decide +kernel
theorem dX5_judged_270 : decode cX5_judged 270 = .ok (.goto 4, 3) := by decide +kernel
theorem dX5_judged_273 : decode cX5_judged 273 = .ok (.iconst 0, 1) := by decide +kernel
theorem dX5_judged_274 : decode cX5_judged 274 = .ok (.ireturn, 1) := by decide +kernel
theorem dX5_judged_275 : decode cX5_judged 275 = .ok (.aload_n 0, 1) := by decide +kernel
theorem dX5_judged_276 : decode cX5_judged 276 = .ok (.iload_n 2, 1) := by decide +kernel
theorem dX5_judged_277 : decode cX5_judged 277 = .ok (.invokevirtual 198, 3) := by decide +kernel
theorem dX5_judged_280 : decode cX5_judged 280 = .ok (.ifCond .eq 46, 3) := by decide +kernel
theorem dX5_judged_283 : decode cX5_judged 283 = .ok (.iload_n 3, 1) := by decide +kernel
theorem dX5_judged_284 : decode cX5_judged 284 = .ok (.iconst 2, 1) := by decide +kernel
theorem dX5_judged_285 : decode cX5_judged 285 = .ok (.if_icmp .ge 41, 3) := by decide +kernel
theorem dX5_judged_288 : decode cX5_judged 288 = .ok (.aload_n 0, 1) := by decide +kernel
theorem dX5_judged_289 : decode cX5_judged 289 = .ok (.getfield 26, 3) := by decide +kernel
theorem dX5_judged_292 : decode cX5_judged 292 = .ok (.iconst 0, 1) := by decide +kernel
theorem dX5_judged_293 : decode cX5_judged 293 = .ok (.iload_n 2, 1) := by decide +kernel
theorem dX5_judged_294 : decode cX5_judged 294 = .ok (.iadd, 1) := by decide +kernel
theorem dX5_judged_295 : decode cX5_judged 295 = .ok (.iaload, 1) := by decide +kernel
theorem dX5_judged_296 : decode cX5_judged 296 = .ok (.iconst 1, 1) := by decide +kernel
theorem dX5_judged_297 : decode cX5_judged 297 = .ok (.if_icmp .ne 29, 3) := by decide +kernel
theorem dX5_judged_300 : decode cX5_judged 300 = .ok (.aload_n 0, 1) := by decide +kernel
theorem dX5_judged_301 : decode cX5_judged 301 = .ok (.aload_n 0, 1) := by decide +kernel
theorem dX5_judged_302 : decode cX5_judged 302 = .ok (.getfield 26, 3) := by decide +kernel
theorem dX5_judged_305 : decode cX5_judged 305 = .ok (.iload_n 2, 1) := by decide +kernel
theorem dX5_judged_306 : decode cX5_judged 306 = .ok (.invokevirtual 142, 3) := by decide +kernel
theorem dX5_judged_309 : decode cX5_judged 309 = .ok (.iload_n 3, 1) := by decide +kernel
theorem dX5_judged_310 : decode cX5_judged 310 = .ok (.iconst 1, 1) := by decide +kernel
theorem dX5_judged_311 : decode cX5_judged 311 = .ok (.if_icmp .ne 7, 3) := by decide +kernel
theorem dX5_judged_314 : decode cX5_judged 314 = .ok (.iconst 1, 1) := by decide +kernel
theorem dX5_judged_315 : decode cX5_judged 315 = .ok (.goto 4, 3) := by decide +kernel
theorem dX5_judged_318 : decode cX5_judged 318 = .ok (.iconst 0, 1) := by decide +kernel
theorem dX5_judged_319 : decode cX5_judged 319 = .ok (.if_icmp .ne 7, 3) := by decide +kernel
theorem dX5_judged_322 : decode cX5_judged 322 = .ok (.iconst 1, 1) := by decide +kernel
theorem dX5_judged_323 : decode cX5_judged 323 = .ok (.goto 4, 3) := by decide +kernel
theorem dX5_judged_326 : decode cX5_judged 326 = .ok (.iconst 0, 1) := by decide +kernel
theorem dX5_judged_327 : decode cX5_judged 327 = .ok (.ireturn, 1) := by decide +kernel
theorem dX5_judged_328 : decode cX5_judged 328 = .ok (.iconst 0, 1) := by decide +kernel
theorem dX5_judged_329 : decode cX5_judged 329 = .ok (.ireturn, 1) := by decide +kernel
theorem dX5_judge_0 : decode cX5_judge 0 = .ok (.iload_n 1, 1) := by decide +kernel
theorem dX5_judge_1 : decode cX5_judge 1 = .ok (.iconst 1, 1) := by decide +kernel
theorem dX5_judge_2 : decode cX5_judge 2 = .ok (.iconst 3, 1) := by decide +kernel
theorem dX5_judge_3 : decode cX5_judge 3 = .ok (.invokestatic 72, 3) := by decide +kernel
theorem dX5_judge_6 : decode cX5_judge 6 = .ok (.ifCond .eq 20, 3) := by decide +kernel
theorem dX5_judge_9 : decode cX5_judge 9 = .ok (.iload_n 2, 1) := by decide +kernel
theorem dX5_judge_10 : decode cX5_judge 10 = .ok (.iconst 0, 1) := by decide +kernel
theorem dX5_judge_11 : decode cX5_judge 11 = .ok (.sipush 1000, 3) := by decide +kernel
theorem dX5_judge_14 : decode cX5_judge 14 = .ok (.iload_n 1, 1) := by decide +kernel
theorem dX5_judge_15 : decode cX5_judge 15 = .ok (.invokestatic 230, 3) := by decide +kernel
theorem dX5_judge_18 : decode cX5_judge 18 = .ok (.iconst 1, 1) := by decide +kernel
theorem dX5_judge_19 : decode cX5_judge 19 = .ok (.isub, 1) := by decide +kernel
theorem dX5_judge_20 : decode cX5_judge 20 = .ok (.invokestatic 72, 3) := by decide +kernel
theorem dX5_judge_23 : decode cX5_judge 23 = .ok (.ifCond .ne 6, 3) := by decide +kernel
theorem dX5_judge_26 : decode cX5_judge 26 = .ok (.bipush (-2), 2) := by decide +kernel
theorem dX5_judge_28 : decode cX5_judge 28 = .ok (.ireturn, 1) := by decide +kernel
theorem dX5_judge_29 : decode cX5_judge 29 = .ok (.aload_n 0, 1) := by decide +kernel
theorem dX5_judge_30 : decode cX5_judge 30 = .ok (.getfield 23, 3) := by decide +kernel
theorem dX5_judge_33 : decode cX5_judge 33 = .ok (.aload_n 0, 1) := by decide +kernel
theorem dX5_judge_34 : decode cX5_judge 34 = .ok (.getfield 26, 3) := by decide +kernel
theorem dX5_judge_37 : decode cX5_judge 37 = .ok (.invokestatic 222, 3) := by decide +kernel
theorem dX5_judge_40 : decode cX5_judge 40 = .ok (.iconst 0, 1) := by decide +kernel
theorem dX5_judge_41 : decode cX5_judge 41 = .ok (.istore_n 3, 1) := by decide +kernel
theorem dX5_judge_42 : decode cX5_judge 42 = .ok (.iload_n 3, 1) := by decide +kernel
theorem dX5_judge_43 : decode cX5_judge 43 = .ok (.iload_n 1, 1) := by decide +kernel
theorem dX5_judge_44 : decode cX5_judge 44 = .ok (.if_icmp .ge 55, 3) := by decide +kernel
theorem dX5_judge_47 : decode cX5_judge 47 = .ok (.iload_n 2, 1) := by decide +kernel
theorem dX5_judge_48 : decode cX5_judge 48 = .ok (.sipush 1000, 3) := by decide +kernel
theorem dX5_judge_51 : decode cX5_judge 51 = .ok (.iload_n 1, 1) := by decide +kernel
theorem dX5_judge_52 : decode cX5_judge 52 = .ok (.iconst 1, 1) := by decide +kernel
theorem dX5_judge_53 : decode cX5_judge 53 = .ok (.isub, 1) := by decide +kernel
theorem dX5_judge_54 : decode cX5_judge 54 = .ok (.iload_n 3, 1) := by decide +kernel
theorem dX5_judge_55 : decode cX5_judge 55 = .ok (.isub, 1) := by decide +kernel
theorem dX5_judge_56 : decode cX5_judge 56 = .ok (.invokestatic 230, 3) := by decide +kernel
theorem dX5_judge_59 : decode cX5_judge 59 = .ok (.idiv, 1) := by decide +kernel
theorem dX5_judge_60 : decode cX5_judge 60 = .ok (.sipush 1000, 3) := by decide +kernel
theorem dX5_judge_63 : decode cX5_judge 63 = .ok (.irem, 1) := by decide +kernel
theorem dX5_judge_64 : decode cX5_judge 64 = .ok (.istore 4, 2) := by decide +kernel
theorem dX5_judge_66 : decode cX5_judge 66 = .ok (.aload_n 0, 1) := by decide +kernel
theorem dX5_judge_67 : decode cX5_judge 67 = .ok (.iload 4, 2) := by decide +kernel
theorem dX5_judge_69 : decode cX5_judge 69 = .ok (.bipush 100, 2) := by decide +kernel
theorem dX5_judge_71 : decode cX5_judge 71 = .ok (.idiv, 1) := by decide +kernel
theorem dX5_judge_72 : decode cX5_judge 72 = .ok (.iload 4, 2) := by decide +kernel
theorem dX5_judge_74 : decode cX5_judge 74 = .ok (.bipush 10, 2) := by decide +kernel
theorem dX5_judge_76 : decode cX5_judge 76 = .ok (.idiv, 1) := by decide +kernel
theorem dX5_judge_77 : decode cX5_judge 77 = .ok (.bipush 10, 2) := by decide +kernel
theorem dX5_judge_79 : decode cX5_judge 79 = .ok (.irem, 1) := by decide +kernel
theorem dX5_judge_80 : decode cX5_judge 80 = .ok (.iload 4, 2) := by decide +kernel
theorem dX5_judge_82 : decode cX5_judge 82 = .ok (.bipush 10, 2) := by decide +kernel
theorem dX5_judge_84 : decode cX5_judge 84 = .ok (.irem, 1) := by decide +kernel
theorem dX5_judge_85 : decode cX5_judge 85 = .ok (.invokevirtual 233, 3) := by decide +kernel
theorem dX5_judge_88 : decode cX5_judge 88 = .ok (.ifCond .ne 5, 3) := by decide +kernel
theorem dX5_judge_91 : decode cX5_judge 91 = .ok (.iload_n 3, 1) := by decide +kernel
theorem dX5_judge_92 : decode cX5_judge 92 = .ok (.ireturn, 1) := by decide +kernel
theorem dX5_judge_93 : decode cX5_judge 93 = .ok (.iinc 3 1, 3) := by decide +kernel
theorem dX5_judge_96 : decode cX5_judge 96 = .ok (.goto (-54), 3) := by decide +kernel
theorem dX5_judge_99 : decode cX5_judge 99 = .ok (.bipush (-9), 2) := by decide +kernel
theorem dX5_judge_101 : decode cX5_judge 101 = .ok (.ireturn, 1) := by decide +kernel
theorem dX5_see_0 : decode cX5_see 0 = .ok (.iload_n 1, 1) := by decide +kernel
theorem dX5_see_1 : decode cX5_see 1 = .ok (.iconst 0, 1) := by decide +kernel
theorem dX5_see_2 : decode cX5_see 2 = .ok (.iconst 2, 1) := by decide +kernel
theorem dX5_see_3 : decode cX5_see 3 = .ok (.invokestatic 72, 3) := by decide +kernel
theorem dX5_see_6 : decode cX5_see 6 = .ok (.ifCond .eq 23, 3) := by decide +kernel
theorem dX5_see_9 : decode cX5_see 9 = .ok (.iload_n 2, 1) := by decide +kernel
theorem dX5_see_10 : decode cX5_see 10 = .ok (.iconst 0, 1) := by decide +kernel
theorem dX5_see_11 : decode cX5_see 11 = .ok (.bipush 20, 2) := by decide +kernel
theorem dX5_see_13 : decode cX5_see 13 = .ok (.invokestatic 72, 3) := by decide +kernel
theorem dX5_see_16 : decode cX5_see 16 = .ok (.ifCond .eq 13, 3) := by decide +kernel
theorem dX5_see_19 : decode cX5_see 19 = .ok (.iload_n 3, 1) := by decide +kernel
theorem dX5_see_20 : decode cX5_see 20 = .ok (.iconst 0, 1) := by decide +kernel
theorem dX5_see_21 : decode cX5_see 21 = .ok (.bipush 99, 2) := by decide +kernel
theorem dX5_see_23 : decode cX5_see 23 = .ok (.invokestatic 72, 3) := by decide +kernel
theorem dX5_see_26 : decode cX5_see 26 = .ok (.ifCond .ne 6, 3) := by decide +kernel
theorem dX5_see_29 : decode cX5_see 29 = .ok (.bipush (-2), 2) := by decide +kernel
theorem dX5_see_31 : decode cX5_see 31 = .ok (.ireturn, 1) := by decide +kernel
theorem dX5_see_32 : decode cX5_see 32 = .ok (.aload_n 0, 1) := by decide +kernel
theorem dX5_see_33 : decode cX5_see 33 = .ok (.getfield 191, 3) := by decide +kernel
theorem dX5_see_36 : decode cX5_see 36 = .ok (.bipush 6, 2) := by decide +kernel
theorem dX5_see_38 : decode cX5_see 38 = .ok (.if_icmp .ne 6, 3) := by decide +kernel
theorem dX5_see_41 : decode cX5_see 41 = .ok (.bipush (-4), 2) := by decide +kernel
theorem dX5_see_43 : decode cX5_see 43 = .ok (.ireturn, 1) := by decide +kernel
theorem dX5_see_44 : decode cX5_see 44 = .ok (.aload_n 0, 1) := by decide +kernel
theorem dX5_see_45 : decode cX5_see 45 = .ok (.getfield 39, 3) := by decide +kernel
theorem dX5_see_48 : decode cX5_see 48 = .ok (.aload_n 0, 1) := by decide +kernel
theorem dX5_see_49 : decode cX5_see 49 = .ok (.getfield 191, 3) := by decide +kernel
theorem dX5_see_52 : decode cX5_see 52 = .ok (.iload_n 1, 1) := by decide +kernel
theorem dX5_see_53 : decode cX5_see 53 = .ok (.iastore, 1) := by decide +kernel
theorem dX5_see_54 : decode cX5_see 54 = .ok (.aload_n 0, 1) := by decide +kernel
theorem dX5_see_55 : decode cX5_see 55 = .ok (.getfield 42, 3) := by decide +kernel
theorem dX5_see_58 : decode cX5_see 58 = .ok (.aload_n 0, 1) := by decide +kernel
theorem dX5_see_59 : decode cX5_see 59 = .ok (.getfield 191, 3) := by decide +kernel
theorem dX5_see_62 : decode cX5_see 62 = .ok (.iload_n 2, 1) := by decide +kernel
theorem dX5_see_63 : decode cX5_see 63 = .ok (.iastore, 1) := by decide +kernel
theorem dX5_see_64 : decode cX5_see 64 = .ok (.aload_n 0, 1) := by decide +kernel
theorem dX5_see_65 : decode cX5_see 65 = .ok (.getfield 45, 3) := by decide +kernel
theorem dX5_see_68 : decode cX5_see 68 = .ok (.aload_n 0, 1) := by decide +kernel
theorem dX5_see_69 : decode cX5_see 69 = .ok (.getfield 191, 3) := by decide +kernel
theorem dX5_see_72 : decode cX5_see 72 = .ok (.iload_n 3, 1) := by decide +kernel
theorem dX5_see_73 : decode cX5_see 73 = .ok (.iastore, 1) := by decide +kernel
theorem dX5_see_74 : decode cX5_see 74 = .ok (.aload_n 0, 1) := by decide +kernel
theorem dX5_see_75 : decode cX5_see 75 = .ok (.dup, 1) := by decide +kernel
theorem dX5_see_76 : decode cX5_see 76 = .ok (.getfield 191, 3) := by decide +kernel
theorem dX5_see_79 : decode cX5_see 79 = .ok (.iconst 1, 1) := by decide +kernel
theorem dX5_see_80 : decode cX5_see 80 = .ok (.iadd, 1) := by decide +kernel
theorem dX5_see_81 : decode cX5_see 81 = .ok (.putfield 191, 3) := by decide +kernel
theorem dX5_see_84 : decode cX5_see 84 = .ok (.aload_n 0, 1) := by decide +kernel
theorem dX5_see_85 : decode cX5_see 85 = .ok (.getfield 191, 3) := by decide +kernel
theorem dX5_see_88 : decode cX5_see 88 = .ok (.ireturn, 1) := by decide +kernel
theorem dX5_unsee_0 : decode cX5_unsee 0 = .ok (.aload_n 0, 1) := by decide +kernel
theorem dX5_unsee_1 : decode cX5_unsee 1 = .ok (.getfield 191, 3) := by decide +kernel
theorem dX5_unsee_4 : decode cX5_unsee 4 = .ok (.istore_n 1, 1) := by decide +kernel
theorem dX5_unsee_5 : decode cX5_unsee 5 = .ok (.aload_n 0, 1) := by decide +kernel
theorem dX5_unsee_6 : decode cX5_unsee 6 = .ok (.iconst 0, 1) := by decide +kernel
theorem dX5_unsee_7 : decode cX5_unsee 7 = .ok (.putfield 191, 3) := by decide +kernel
theorem dX5_unsee_10 : decode cX5_unsee 10 = .ok (.iload_n 1, 1) := by decide +kernel
theorem dX5_unsee_11 : decode cX5_unsee 11 = .ok (.ireturn, 1) := by decide +kernel
theorem dX5_isSoBy_0 : decode cX5_isSoBy 0 = .ok (.aload_n 0, 1) := by decide +kernel
theorem dX5_isSoBy_1 : decode cX5_isSoBy 1 = .ok (.getfield 23, 3) := by decide +kernel
theorem dX5_isSoBy_4 : decode cX5_isSoBy 4 = .ok (.aload_n 0, 1) := by decide +kernel
theorem dX5_isSoBy_5 : decode cX5_isSoBy 5 = .ok (.getfield 26, 3) := by decide +kernel
theorem dX5_isSoBy_8 : decode cX5_isSoBy 8 = .ok (.invokestatic 222, 3) := by decide +kernel
theorem dX5_isSoBy_11 : decode cX5_isSoBy 11 = .ok (.iconst 0, 1) := by decide +kernel
theorem dX5_isSoBy_12 : decode cX5_isSoBy 12 = .ok (.istore_n 3, 1) := by decide +kernel
theorem dX5_isSoBy_13 : decode cX5_isSoBy 13 = .ok (.iload_n 3, 1) := by decide +kernel
theorem dX5_isSoBy_14 : decode cX5_isSoBy 14 = .ok (.aload_n 0, 1) := by decide +kernel
theorem dX5_isSoBy_15 : decode cX5_isSoBy 15 = .ok (.getfield 42, 3) := by decide +kernel
theorem dX5_isSoBy_18 : decode cX5_isSoBy 18 = .ok (.iload_n 2, 1) := by decide +kernel
theorem dX5_isSoBy_19 : decode cX5_isSoBy 19 = .ok (.iaload, 1) := by decide +kernel
theorem dX5_isSoBy_20 : decode cX5_isSoBy 20 = .ok (.if_icmp .ge 32, 3) := by decide +kernel
theorem dX5_isSoBy_23 : decode cX5_isSoBy 23 = .ok (.iload_n 3, 1) := by decide +kernel
theorem dX5_isSoBy_24 : decode cX5_isSoBy 24 = .ok (.iload_n 1, 1) := by decide +kernel
theorem dX5_isSoBy_25 : decode cX5_isSoBy 25 = .ok (.if_icmp .ne 11, 3) := by decide +kernel
theorem dX5_isSoBy_28 : decode cX5_isSoBy 28 = .ok (.aload_n 0, 1) := by decide +kernel
theorem dX5_isSoBy_29 : decode cX5_isSoBy 29 = .ok (.aload_n 0, 1) := by decide +kernel
theorem dX5_isSoBy_30 : decode cX5_isSoBy 30 = .ok (.getfield 26, 3) := by decide +kernel
theorem dX5_isSoBy_33 : decode cX5_isSoBy 33 = .ok (.invokevirtual 153, 3) := by decide +kernel
theorem dX5_isSoBy_36 : decode cX5_isSoBy 36 = .ok (.aload_n 0, 1) := by decide +kernel
theorem dX5_isSoBy_37 : decode cX5_isSoBy 37 = .ok (.aload_n 0, 1) := by decide +kernel
theorem dX5_isSoBy_38 : decode cX5_isSoBy 38 = .ok (.getfield 26, 3) := by decide +kernel
theorem dX5_isSoBy_41 : decode cX5_isSoBy 41 = .ok (.iconst 1, 1) := by decide +kernel
theorem dX5_isSoBy_42 : decode cX5_isSoBy 42 = .ok (.invokevirtual 210, 3) := by decide +kernel
theorem dX5_isSoBy_45 : decode cX5_isSoBy 45 = .ok (.pop, 1) := by decide +kernel
theorem dX5_isSoBy_46 : decode cX5_isSoBy 46 = .ok (.iinc 3 1, 3) := by decide +kernel
theorem dX5_isSoBy_49 : decode cX5_isSoBy 49 = .ok (.goto (-36), 3) := by decide +kernel
theorem dX5_isSoBy_52 : decode cX5_isSoBy 52 = .ok (.aload_n 0, 1) := by decide +kernel
theorem dX5_isSoBy_53 : decode cX5_isSoBy 53 = .ok (.getfield 39, 3) := by decide +kernel
theorem dX5_isSoBy_56 : decode cX5_isSoBy 56 = .ok (.iload_n 2, 1) := by decide +kernel
theorem dX5_isSoBy_57 : decode cX5_isSoBy 57 = .ok (.iaload, 1) := by decide +kernel
theorem dX5_isSoBy_58 : decode cX5_isSoBy 58 = .ok (.istore_n 3, 1) := by decide +kernel
theorem dX5_isSoBy_59 : decode cX5_isSoBy 59 = .ok (.aload_n 0, 1) := by decide +kernel
theorem dX5_isSoBy_60 : decode cX5_isSoBy 60 = .ok (.getfield 26, 3) := by decide +kernel
theorem dX5_isSoBy_63 : decode cX5_isSoBy 63 = .ok (.iload_n 3, 1) := by decide +kernel
theorem dX5_isSoBy_64 : decode cX5_isSoBy 64 = .ok (.ifCond .ne 8, 3) := by decide +kernel
theorem dX5_isSoBy_67 : decode cX5_isSoBy 67 = .ok (.bipush 72, 2) := by decide +kernel
theorem dX5_isSoBy_69 : decode cX5_isSoBy 69 = .ok (.goto 15, 3) := by decide +kernel
theorem dX5_isSoBy_72 : decode cX5_isSoBy 72 = .ok (.iload_n 3, 1) := by decide +kernel
theorem dX5_isSoBy_73 : decode cX5_isSoBy 73 = .ok (.iconst 1, 1) := by decide +kernel
theorem dX5_isSoBy_74 : decode cX5_isSoBy 74 = .ok (.if_icmp .ne 8, 3) := by decide +kernel
theorem dX5_isSoBy_77 : decode cX5_isSoBy 77 = .ok (.bipush 74, 2) := by decide +kernel
theorem dX5_isSoBy_79 : decode cX5_isSoBy 79 = .ok (.goto 5, 3) := by decide +kernel
theorem dX5_isSoBy_82 : decode cX5_isSoBy 82 = .ok (.bipush 73, 2) := by decide +kernel
theorem dX5_isSoBy_84 : decode cX5_isSoBy 84 = .ok (.iaload, 1) := by decide +kernel
theorem dX5_isSoBy_85 : decode cX5_isSoBy 85 = .ok (.aload_n 0, 1) := by decide +kernel
theorem dX5_isSoBy_86 : decode cX5_isSoBy 86 = .ok (.getfield 45, 3) := by decide +kernel
theorem dX5_isSoBy_89 : decode cX5_isSoBy 89 = .ok (.iload_n 2, 1) := by decide +kernel
theorem dX5_isSoBy_90 : decode cX5_isSoBy 90 = .ok (.iaload, 1) := by decide +kernel
theorem dX5_isSoBy_91 : decode cX5_isSoBy 91 = .ok (.if_icmp .ne 7, 3) := by decide +kernel
theorem dX5_isSoBy_94 : decode cX5_isSoBy 94 = .ok (.iconst 1, 1) := by decide +kernel
theorem dX5_isSoBy_95 : decode cX5_isSoBy 95 = .ok (.goto 4, 3) := by decide +kernel
theorem dX5_isSoBy_98 : decode cX5_isSoBy 98 = .ok (.iconst 0, 1) := by decide +kernel
theorem dX5_isSoBy_99 : decode cX5_isSoBy 99 = .ok (.ireturn, 1) := by decide +kernel
theorem dX5_which_0 : decode cX5_which 0 = .ok (.iconst 0, 1) := by decide +kernel
theorem dX5_which_1 : decode cX5_which 1 = .ok (.istore_n 1, 1) := by decide +kernel
theorem dX5_which_2 : decode cX5_which 2 = .ok (.iconst 0, 1) := by decide +kernel
theorem dX5_which_3 : decode cX5_which 3 = .ok (.istore_n 2, 1) := by decide +kernel
theorem dX5_which_4 : decode cX5_which 4 = .ok (.iload_n 2, 1) := by decide +kernel
theorem dX5_which_5 : decode cX5_which 5 = .ok (.bipush 10, 2) := by decide +kernel
theorem dX5_which_7 : decode cX5_which 7 = .ok (.if_icmp .ge 63, 3) := by decide +kernel
theorem dX5_which_10 : decode cX5_which 10 = .ok (.iconst 1, 1) := by decide +kernel
theorem dX5_which_11 : decode cX5_which 11 = .ok (.istore_n 3, 1) := by decide +kernel
theorem dX5_which_12 : decode cX5_which 12 = .ok (.iconst 0, 1) := by decide +kernel
theorem dX5_which_13 : decode cX5_which 13 = .ok (.istore 4, 2) := by decide +kernel
theorem dX5_which_15 : decode cX5_which 15 = .ok (.iload 4, 2) := by decide +kernel
theorem dX5_which_17 : decode cX5_which 17 = .ok (.aload_n 0, 1) := by decide +kernel
theorem dX5_which_18 : decode cX5_which 18 = .ok (.getfield 191, 3) := by decide +kernel
theorem dX5_which_21 : decode cX5_which 21 = .ok (.if_icmp .ge 29, 3) := by decide +kernel
theorem dX5_which_24 : decode cX5_which 24 = .ok (.iload_n 3, 1) := by decide +kernel
theorem dX5_which_25 : decode cX5_which 25 = .ok (.ifCond .eq 17, 3) := by decide +kernel
theorem dX5_which_28 : decode cX5_which 28 = .ok (.aload_n 0, 1) := by decide +kernel
theorem dX5_which_29 : decode cX5_which 29 = .ok (.iload_n 2, 1) := by decide +kernel
theorem dX5_which_30 : decode cX5_which 30 = .ok (.iload 4, 2) := by decide +kernel
theorem dX5_which_32 : decode cX5_which 32 = .ok (.invokevirtual 236, 3) := by decide +kernel
theorem dX5_which_35 : decode cX5_which 35 = .ok (.ifCond .eq 7, 3) := by decide +kernel
theorem dX5_which_38 : decode cX5_which 38 = .ok (.iconst 1, 1) := by decide +kernel
theorem dX5_which_39 : decode cX5_which 39 = .ok (.goto 4, 3) := by decide +kernel
theorem dX5_which_42 : decode cX5_which 42 = .ok (.iconst 0, 1) := by decide +kernel
theorem dX5_which_43 : decode cX5_which 43 = .ok (.istore_n 3, 1) := by decide +kernel
theorem dX5_which_44 : decode cX5_which 44 = .ok (.iinc 4 1, 3) := by decide +kernel
theorem dX5_which_47 : decode cX5_which 47 = .ok (.goto (-32), 3) := by decide +kernel
theorem dX5_which_50 : decode cX5_which 50 = .ok (.iload_n 1, 1) := by decide +kernel
theorem dX5_which_51 : decode cX5_which 51 = .ok (.iload_n 3, 1) := by decide +kernel
theorem dX5_which_52 : decode cX5_which 52 = .ok (.ifCond .eq 9, 3) := by decide +kernel
theorem dX5_which_55 : decode cX5_which 55 = .ok (.iconst 1, 1) := by decide +kernel
theorem dX5_which_56 : decode cX5_which 56 = .ok (.iload_n 2, 1) := by decide +kernel
theorem dX5_which_57 : decode cX5_which 57 = .ok (.ishl, 1) := by decide +kernel
theorem dX5_which_58 : decode cX5_which 58 = .ok (.goto 4, 3) := by decide +kernel
theorem dX5_which_61 : decode cX5_which 61 = .ok (.iconst 0, 1) := by decide +kernel
theorem dX5_which_62 : decode cX5_which 62 = .ok (.ior, 1) := by decide +kernel
theorem dX5_which_63 : decode cX5_which 63 = .ok (.istore_n 1, 1) := by decide +kernel
theorem dX5_which_64 : decode cX5_which 64 = .ok (.iinc 2 1, 3) := by decide +kernel
theorem dX5_which_67 : decode cX5_which 67 = .ok (.goto (-63), 3) := by decide +kernel
theorem dX5_which_70 : decode cX5_which 70 = .ok (.iload_n 1, 1) := by decide +kernel
theorem dX5_which_71 : decode cX5_which 71 = .ok (.ireturn, 1) := by decide +kernel
theorem dX5_outBy_0 : decode cX5_outBy 0 = .ok (.aload_n 0, 1) := by decide +kernel
theorem dX5_outBy_1 : decode cX5_outBy 1 = .ok (.iload_n 1, 1) := by decide +kernel
theorem dX5_outBy_2 : decode cX5_outBy 2 = .ok (.putfield 66, 3) := by decide +kernel
theorem dX5_outBy_5 : decode cX5_outBy 5 = .ok (.aload_n 0, 1) := by decide +kernel
theorem dX5_outBy_6 : decode cX5_outBy 6 = .ok (.getfield 23, 3) := by decide +kernel
theorem dX5_outBy_9 : decode cX5_outBy 9 = .ok (.aload_n 0, 1) := by decide +kernel
theorem dX5_outBy_10 : decode cX5_outBy 10 = .ok (.getfield 26, 3) := by decide +kernel
theorem dX5_outBy_13 : decode cX5_outBy 13 = .ok (.invokestatic 222, 3) := by decide +kernel
theorem dX5_outBy_16 : decode cX5_outBy 16 = .ok (.aload_n 0, 1) := by decide +kernel
theorem dX5_outBy_17 : decode cX5_outBy 17 = .ok (.aload_n 0, 1) := by decide +kernel
theorem dX5_outBy_18 : decode cX5_outBy 18 = .ok (.getfield 26, 3) := by decide +kernel
theorem dX5_outBy_21 : decode cX5_outBy 21 = .ok (.bipush 30, 2) := by decide +kernel
theorem dX5_outBy_23 : decode cX5_outBy 23 = .ok (.invokevirtual 210, 3) := by decide +kernel
theorem dX5_outBy_26 : decode cX5_outBy 26 = .ok (.pop, 1) := by decide +kernel
theorem dX5_outBy_27 : decode cX5_outBy 27 = .ok (.aload_n 0, 1) := by decide +kernel
theorem dX5_outBy_28 : decode cX5_outBy 28 = .ok (.bipush 15, 2) := by decide +kernel
theorem dX5_outBy_30 : decode cX5_outBy 30 = .ok (.putfield 66, 3) := by decide +kernel
theorem dX5_outBy_33 : decode cX5_outBy 33 = .ok (.aload_n 0, 1) := by decide +kernel
theorem dX5_outBy_34 : decode cX5_outBy 34 = .ok (.getfield 26, 3) := by decide +kernel
theorem dX5_outBy_37 : decode cX5_outBy 37 = .ok (.bipush 72, 2) := by decide +kernel
theorem dX5_outBy_39 : decode cX5_outBy 39 = .ok (.iaload, 1) := by decide +kernel
theorem dX5_outBy_40 : decode cX5_outBy 40 = .ok (.ireturn, 1) := by decide +kernel
theorem dX5_share_0 : decode cX5_share 0 = .ok (.aload_n 0, 1) := by decide +kernel
theorem dX5_share_1 : decode cX5_share 1 = .ok (.iload_n 1, 1) := by decide +kernel
theorem dX5_share_2 : decode cX5_share 2 = .ok (.invokevirtual 201, 3) := by decide +kernel
theorem dX5_share_5 : decode cX5_share 5 = .ok (.ifCond .ne 5, 3) := by decide +kernel
theorem dX5_share_8 : decode cX5_share 8 = .ok (.iconst (-1), 1) := by decide +kernel
theorem dX5_share_9 : decode cX5_share 9 = .ok (.ireturn, 1) := by decide +kernel
theorem dX5_share_10 : decode cX5_share 10 = .ok (.iconst 0, 1) := by decide +kernel
theorem dX5_share_11 : decode cX5_share 11 = .ok (.istore_n 3, 1) := by decide +kernel
theorem dX5_share_12 : decode cX5_share 12 = .ok (.iload_n 3, 1) := by decide +kernel
theorem dX5_share_13 : decode cX5_share 13 = .ok (.iconst 1, 1) := by decide +kernel
theorem dX5_share_14 : decode cX5_share 14 = .ok (.aload_n 0, 1) := by decide +kernel
theorem dX5_share_15 : decode cX5_share 15 = .ok (.getfield 76, 3) := by decide +kernel
theorem dX5_share_18 : decode cX5_share 18 = .ok (.ishl, 1) := by decide +kernel
theorem dX5_share_19 : decode cX5_share 19 = .ok (.if_icmp .ge 20, 3) := by decide +kernel
theorem dX5_share_22 : decode cX5_share 22 = .ok (.aload_n 0, 1) := by decide +kernel
theorem dX5_share_23 : decode cX5_share 23 = .ok (.getfield 48, 3) := by decide +kernel
theorem dX5_share_26 : decode cX5_share 26 = .ok (.iload_n 3, 1) := by decide +kernel
theorem dX5_share_27 : decode cX5_share 27 = .ok (.aload_n 0, 1) := by decide +kernel
theorem dX5_share_28 : decode cX5_share 28 = .ok (.iload_n 3, 1) := by decide +kernel
theorem dX5_share_29 : decode cX5_share 29 = .ok (.invokevirtual 239, 3) := by decide +kernel
theorem dX5_share_32 : decode cX5_share 32 = .ok (.iastore, 1) := by decide +kernel
theorem dX5_share_33 : decode cX5_share 33 = .ok (.iinc 3 1, 3) := by decide +kernel
theorem dX5_share_36 : decode cX5_share 36 = .ok (.goto (-24), 3) := by decide +kernel
theorem dX5_share_39 : decode cX5_share 39 = .ok (.iconst 0, 1) := by decide +kernel
theorem dX5_share_40 : decode cX5_share 40 = .ok (.istore_n 3, 1) := by decide +kernel
theorem dX5_share_41 : decode cX5_share 41 = .ok (.iconst 0, 1) := by decide +kernel
theorem dX5_share_42 : decode cX5_share 42 = .ok (.istore 4, 2) := by decide +kernel
theorem dX5_share_44 : decode cX5_share 44 = .ok (.iload 4, 2) := by decide +kernel
theorem dX5_share_46 : decode cX5_share 46 = .ok (.iconst 1, 1) := by decide +kernel
theorem dX5_share_47 : decode cX5_share 47 = .ok (.aload_n 0, 1) := by decide +kernel
theorem dX5_share_48 : decode cX5_share 48 = .ok (.getfield 76, 3) := by decide +kernel
theorem dX5_share_51 : decode cX5_share 51 = .ok (.ishl, 1) := by decide +kernel
theorem dX5_share_52 : decode cX5_share 52 = .ok (.if_icmp .ge 66, 3) := by decide +kernel
theorem dX5_share_55 : decode cX5_share 55 = .ok (.iload 4, 2) := by decide +kernel
theorem dX5_share_57 : decode cX5_share 57 = .ok (.iload_n 1, 1) := by decide +kernel
theorem dX5_share_58 : decode cX5_share 58 = .ok (.invokestatic 157, 3) := by decide +kernel
theorem dX5_share_61 : decode cX5_share 61 = .ok (.ifCond .ne 51, 3) := by decide +kernel
theorem dX5_share_64 : decode cX5_share 64 = .ok (.iload 4, 2) := by decide +kernel
theorem dX5_share_66 : decode cX5_share 66 = .ok (.invokestatic 242, 3) := by decide +kernel
theorem dX5_share_69 : decode cX5_share 69 = .ok (.istore 5, 2) := by decide +kernel
theorem dX5_share_71 : decode cX5_share 71 = .ok (.iload_n 3, 1) := by decide +kernel
theorem dX5_share_72 : decode cX5_share 72 = .ok (.iload 5, 2) := by decide +kernel
theorem dX5_share_74 : decode cX5_share 74 = .ok (.invokestatic 245, 3) := by decide +kernel
theorem dX5_share_77 : decode cX5_share 77 = .ok (.aload_n 0, 1) := by decide +kernel
theorem dX5_share_78 : decode cX5_share 78 = .ok (.getfield 76, 3) := by decide +kernel
theorem dX5_share_81 : decode cX5_share 81 = .ok (.iconst 1, 1) := by decide +kernel
theorem dX5_share_82 : decode cX5_share 82 = .ok (.isub, 1) := by decide +kernel
theorem dX5_share_83 : decode cX5_share 83 = .ok (.iload 5, 2) := by decide +kernel
theorem dX5_share_85 : decode cX5_share 85 = .ok (.isub, 1) := by decide +kernel
theorem dX5_share_86 : decode cX5_share 86 = .ok (.invokestatic 245, 3) := by decide +kernel
theorem dX5_share_89 : decode cX5_share 89 = .ok (.imul, 1) := by decide +kernel
theorem dX5_share_90 : decode cX5_share 90 = .ok (.aload_n 0, 1) := by decide +kernel
theorem dX5_share_91 : decode cX5_share 91 = .ok (.getfield 48, 3) := by decide +kernel
theorem dX5_share_94 : decode cX5_share 94 = .ok (.iload 4, 2) := by decide +kernel
theorem dX5_share_96 : decode cX5_share 96 = .ok (.iconst 1, 1) := by decide +kernel
theorem dX5_share_97 : decode cX5_share 97 = .ok (.iload_n 1, 1) := by decide +kernel
theorem dX5_share_98 : decode cX5_share 98 = .ok (.ishl, 1) := by decide +kernel
theorem dX5_share_99 : decode cX5_share 99 = .ok (.ior, 1) := by decide +kernel
theorem dX5_share_100 : decode cX5_share 100 = .ok (.iaload, 1) := by decide +kernel
theorem dX5_share_101 : decode cX5_share 101 = .ok (.aload_n 0, 1) := by decide +kernel
theorem dX5_share_102 : decode cX5_share 102 = .ok (.getfield 48, 3) := by decide +kernel
theorem dX5_share_105 : decode cX5_share 105 = .ok (.iload 4, 2) := by decide +kernel
theorem dX5_share_107 : decode cX5_share 107 = .ok (.iaload, 1) := by decide +kernel
theorem dX5_share_108 : decode cX5_share 108 = .ok (.isub, 1) := by decide +kernel
theorem dX5_share_109 : decode cX5_share 109 = .ok (.imul, 1) := by decide +kernel
theorem dX5_share_110 : decode cX5_share 110 = .ok (.iadd, 1) := by decide +kernel
theorem dX5_share_111 : decode cX5_share 111 = .ok (.istore_n 3, 1) := by decide +kernel
theorem dX5_share_112 : decode cX5_share 112 = .ok (.iinc 4 1, 3) := by decide +kernel
theorem dX5_share_115 : decode cX5_share 115 = .ok (.goto (-71), 3) := by decide +kernel
theorem dX5_share_118 : decode cX5_share 118 = .ok (.iload_n 3, 1) := by decide +kernel
theorem dX5_share_119 : decode cX5_share 119 = .ok (.aload_n 0, 1) := by decide +kernel
theorem dX5_share_120 : decode cX5_share 120 = .ok (.getfield 76, 3) := by decide +kernel
theorem dX5_share_123 : decode cX5_share 123 = .ok (.invokestatic 245, 3) := by decide +kernel
theorem dX5_share_126 : decode cX5_share 126 = .ok (.iload_n 2, 1) := by decide +kernel
theorem dX5_share_127 : decode cX5_share 127 = .ok (.invokestatic 248, 3) := by decide +kernel
theorem dX5_share_130 : decode cX5_share 130 = .ok (.ireturn, 1) := by decide +kernel
theorem dX5_chance_0 : decode cX5_chance 0 = .ok (.iload_n 1, 1) := by decide +kernel
theorem dX5_chance_1 : decode cX5_chance 1 = .ok (.iconst 1, 1) := by decide +kernel
theorem dX5_chance_2 : decode cX5_chance 2 = .ok (.bipush 6, 2) := by decide +kernel
theorem dX5_chance_4 : decode cX5_chance 4 = .ok (.invokestatic 72, 3) := by decide +kernel
theorem dX5_chance_7 : decode cX5_chance 7 = .ok (.ifCond .eq 13, 3) := by decide +kernel
theorem dX5_chance_10 : decode cX5_chance 10 = .ok (.iload_n 2, 1) := by decide +kernel
theorem dX5_chance_11 : decode cX5_chance 11 = .ok (.iconst 0, 1) := by decide +kernel
theorem dX5_chance_12 : decode cX5_chance 12 = .ok (.bipush 10, 2) := by decide +kernel
theorem dX5_chance_14 : decode cX5_chance 14 = .ok (.invokestatic 72, 3) := by decide +kernel
theorem dX5_chance_17 : decode cX5_chance 17 = .ok (.ifCond .ne 6, 3) := by decide +kernel
theorem dX5_chance_20 : decode cX5_chance 20 = .ok (.bipush (-2), 2) := by decide +kernel
theorem dX5_chance_22 : decode cX5_chance 22 = .ok (.ireturn, 1) := by decide +kernel
theorem dX5_chance_23 : decode cX5_chance 23 = .ok (.iconst 0, 1) := by decide +kernel
theorem dX5_chance_24 : decode cX5_chance 24 = .ok (.istore 4, 2) := by decide +kernel
theorem dX5_chance_26 : decode cX5_chance 26 = .ok (.iconst 0, 1) := by decide +kernel
theorem dX5_chance_27 : decode cX5_chance 27 = .ok (.istore 5, 2) := by decide +kernel
theorem dX5_chance_29 : decode cX5_chance 29 = .ok (.iload 5, 2) := by decide +kernel
theorem dX5_chance_31 : decode cX5_chance 31 = .ok (.iconst 1, 1) := by decide +kernel
theorem dX5_chance_32 : decode cX5_chance 32 = .ok (.iload_n 1, 1) := by decide +kernel
theorem dX5_chance_33 : decode cX5_chance 33 = .ok (.ishl, 1) := by decide +kernel
theorem dX5_chance_34 : decode cX5_chance 34 = .ok (.if_icmp .ge 122, 3) := by decide +kernel
theorem dX5_chance_37 : decode cX5_chance 37 = .ok (.aload_n 0, 1) := by decide +kernel
theorem dX5_chance_38 : decode cX5_chance 38 = .ok (.getfield 23, 3) := by decide +kernel
theorem dX5_chance_41 : decode cX5_chance 41 = .ok (.aload_n 0, 1) := by decide +kernel
theorem dX5_chance_42 : decode cX5_chance 42 = .ok (.getfield 26, 3) := by decide +kernel
theorem dX5_chance_45 : decode cX5_chance 45 = .ok (.invokestatic 222, 3) := by decide +kernel
theorem dX5_chance_48 : decode cX5_chance 48 = .ok (.iconst 0, 1) := by decide +kernel
theorem dX5_chance_49 : decode cX5_chance 49 = .ok (.istore 6, 2) := by decide +kernel
theorem dX5_chance_51 : decode cX5_chance 51 = .ok (.iload 6, 2) := by decide +kernel
theorem dX5_chance_53 : decode cX5_chance 53 = .ok (.iload_n 1, 1) := by decide +kernel
theorem dX5_chance_54 : decode cX5_chance 54 = .ok (.if_icmp .ge 53, 3) := by decide +kernel
theorem dX5_chance_57 : decode cX5_chance 57 = .ok (.aload_n 0, 1) := by decide +kernel
theorem dX5_chance_58 : decode cX5_chance 58 = .ok (.getfield 26, 3) := by decide +kernel
theorem dX5_chance_61 : decode cX5_chance 61 = .ok (.bipush 70, 2) := by decide +kernel
theorem dX5_chance_63 : decode cX5_chance 63 = .ok (.iaload, 1) := by decide +kernel
theorem dX5_chance_64 : decode cX5_chance 64 = .ok (.ifCond .ne 43, 3) := by decide +kernel
theorem dX5_chance_67 : decode cX5_chance 67 = .ok (.aload_n 0, 1) := by decide +kernel
theorem dX5_chance_68 : decode cX5_chance 68 = .ok (.aload_n 0, 1) := by decide +kernel
theorem dX5_chance_69 : decode cX5_chance 69 = .ok (.getfield 26, 3) := by decide +kernel
theorem dX5_chance_72 : decode cX5_chance 72 = .ok (.iload 5, 2) := by decide +kernel
theorem dX5_chance_74 : decode cX5_chance 74 = .ok (.iload 6, 2) := by decide +kernel
theorem dX5_chance_76 : decode cX5_chance 76 = .ok (.invokestatic 157, 3) := by decide +kernel
theorem dX5_chance_79 : decode cX5_chance 79 = .ok (.ifCond .ne 14, 3) := by decide +kernel
theorem dX5_chance_82 : decode cX5_chance 82 = .ok (.aload_n 0, 1) := by decide +kernel
theorem dX5_chance_83 : decode cX5_chance 83 = .ok (.getfield 26, 3) := by decide +kernel
theorem dX5_chance_86 : decode cX5_chance 86 = .ok (.bipush 69, 2) := by decide +kernel
theorem dX5_chance_88 : decode cX5_chance 88 = .ok (.iaload, 1) := by decide +kernel
theorem dX5_chance_89 : decode cX5_chance 89 = .ok (.iconst 1, 1) := by decide +kernel
theorem dX5_chance_90 : decode cX5_chance 90 = .ok (.if_icmp .ne 7, 3) := by decide +kernel
theorem dX5_chance_93 : decode cX5_chance 93 = .ok (.iconst 1, 1) := by decide +kernel
theorem dX5_chance_94 : decode cX5_chance 94 = .ok (.goto 4, 3) := by decide +kernel
theorem dX5_chance_97 : decode cX5_chance 97 = .ok (.iconst 0, 1) := by decide +kernel
theorem dX5_chance_98 : decode cX5_chance 98 = .ok (.invokevirtual 184, 3) := by decide +kernel
theorem dX5_chance_101 : decode cX5_chance 101 = .ok (.iinc 6 1, 3) := by decide +kernel
theorem dX5_chance_104 : decode cX5_chance 104 = .ok (.goto (-53), 3) := by decide +kernel
theorem dX5_chance_107 : decode cX5_chance 107 = .ok (.iload 4, 2) := by decide +kernel
theorem dX5_chance_109 : decode cX5_chance 109 = .ok (.aload_n 0, 1) := by decide +kernel
theorem dX5_chance_110 : decode cX5_chance 110 = .ok (.getfield 26, 3) := by decide +kernel
theorem dX5_chance_113 : decode cX5_chance 113 = .ok (.bipush 70, 2) := by decide +kernel
theorem dX5_chance_115 : decode cX5_chance 115 = .ok (.iaload, 1) := by decide +kernel
theorem dX5_chance_116 : decode cX5_chance 116 = .ok (.ifCond .ne 30, 3) := by decide +kernel
theorem dX5_chance_119 : decode cX5_chance 119 = .ok (.iload_n 2, 1) := by decide +kernel
theorem dX5_chance_120 : decode cX5_chance 120 = .ok (.iload 5, 2) := by decide +kernel
theorem dX5_chance_122 : decode cX5_chance 122 = .ok (.invokestatic 242, 3) := by decide +kernel
theorem dX5_chance_125 : decode cX5_chance 125 = .ok (.invokestatic 230, 3) := by decide +kernel
theorem dX5_chance_128 : decode cX5_chance 128 = .ok (.bipush 10, 2) := by decide +kernel
theorem dX5_chance_130 : decode cX5_chance 130 = .ok (.iload_n 2, 1) := by decide +kernel
theorem dX5_chance_131 : decode cX5_chance 131 = .ok (.isub, 1) := by decide +kernel
theorem dX5_chance_132 : decode cX5_chance 132 = .ok (.iload_n 1, 1) := by decide +kernel
theorem dX5_chance_133 : decode cX5_chance 133 = .ok (.iload 5, 2) := by decide +kernel
theorem dX5_chance_135 : decode cX5_chance 135 = .ok (.invokestatic 242, 3) := by decide +kernel
theorem dX5_chance_138 : decode cX5_chance 138 = .ok (.isub, 1) := by decide +kernel
theorem dX5_chance_139 : decode cX5_chance 139 = .ok (.invokestatic 230, 3) := by decide +kernel
theorem dX5_chance_142 : decode cX5_chance 142 = .ok (.imul, 1) := by decide +kernel
theorem dX5_chance_143 : decode cX5_chance 143 = .ok (.goto 4, 3) := by decide +kernel
theorem dX5_chance_146 : decode cX5_chance 146 = .ok (.iconst 0, 1) := by decide +kernel
theorem dX5_chance_147 : decode cX5_chance 147 = .ok (.iadd, 1) := by decide +kernel
theorem dX5_chance_148 : decode cX5_chance 148 = .ok (.istore 4, 2) := by decide +kernel
theorem dX5_chance_150 : decode cX5_chance 150 = .ok (.iinc 5 1, 3) := by decide +kernel
theorem dX5_chance_153 : decode cX5_chance 153 = .ok (.goto (-124), 3) := by decide +kernel
theorem dX5_chance_156 : decode cX5_chance 156 = .ok (.iload 4, 2) := by decide +kernel
theorem dX5_chance_158 : decode cX5_chance 158 = .ok (.bipush 10, 2) := by decide +kernel
theorem dX5_chance_160 : decode cX5_chance 160 = .ok (.iload_n 1, 1) := by decide +kernel
theorem dX5_chance_161 : decode cX5_chance 161 = .ok (.invokestatic 230, 3) := by decide +kernel
theorem dX5_chance_164 : decode cX5_chance 164 = .ok (.iload_n 3, 1) := by decide +kernel
theorem dX5_chance_165 : decode cX5_chance 165 = .ok (.invokestatic 248, 3) := by decide +kernel
theorem dX5_chance_168 : decode cX5_chance 168 = .ok (.ireturn, 1) := by decide +kernel
theorem dX5_seed_0 : decode cX5_seed 0 = .ok (.aload_n 0, 1) := by decide +kernel
theorem dX5_seed_1 : decode cX5_seed 1 = .ok (.getfield 252, 3) := by decide +kernel
theorem dX5_seed_4 : decode cX5_seed 4 = .ok (.lstore_n 3, 1) := by decide +kernel
theorem dX5_seed_5 : decode cX5_seed 5 = .ok (.aload_n 0, 1) := by decide +kernel
theorem dX5_seed_6 : decode cX5_seed 6 = .ok (.lload_n 1, 1) := by decide +kernel
theorem dX5_seed_7 : decode cX5_seed 7 = .ok (.putfield 252, 3) := by decide +kernel
theorem dX5_seed_10 : decode cX5_seed 10 = .ok (.lload_n 3, 1) := by decide +kernel
theorem dX5_seed_11 : decode cX5_seed 11 = .ok (.lreturn, 1) := by decide +kernel
theorem dX5_drawn_0 : decode cX5_drawn 0 = .ok (.iload_n 1, 1) := by decide +kernel
theorem dX5_drawn_1 : decode cX5_drawn 1 = .ok (.iconst 1, 1) := by decide +kernel
theorem dX5_drawn_2 : decode cX5_drawn 2 = .ok (.bipush 20, 2) := by decide +kernel
theorem dX5_drawn_4 : decode cX5_drawn 4 = .ok (.invokestatic 72, 3) := by decide +kernel
theorem dX5_drawn_7 : decode cX5_drawn 7 = .ok (.ifCond .ne 6, 3) := by decide +kernel
theorem dX5_drawn_10 : decode cX5_drawn 10 = .ok (.bipush (-2), 2) := by decide +kernel
theorem dX5_drawn_12 : decode cX5_drawn 12 = .ok (.ireturn, 1) := by decide +kernel
theorem dX5_drawn_13 : decode cX5_drawn 13 = .ok (.aload_n 0, 1) := by decide +kernel
theorem dX5_drawn_14 : decode cX5_drawn 14 = .ok (.getfield 23, 3) := by decide +kernel
theorem dX5_drawn_17 : decode cX5_drawn 17 = .ok (.aload_n 0, 1) := by decide +kernel
theorem dX5_drawn_18 : decode cX5_drawn 18 = .ok (.getfield 26, 3) := by decide +kernel
theorem dX5_drawn_21 : decode cX5_drawn 21 = .ok (.invokestatic 222, 3) := by decide +kernel
theorem dX5_drawn_24 : decode cX5_drawn 24 = .ok (.iconst 0, 1) := by decide +kernel
theorem dX5_drawn_25 : decode cX5_drawn 25 = .ok (.istore_n 2, 1) := by decide +kernel
theorem dX5_drawn_26 : decode cX5_drawn 26 = .ok (.iconst 0, 1) := by decide +kernel
theorem dX5_drawn_27 : decode cX5_drawn 27 = .ok (.istore_n 3, 1) := by decide +kernel
theorem dX5_drawn_28 : decode cX5_drawn 28 = .ok (.iload_n 3, 1) := by decide +kernel
theorem dX5_drawn_29 : decode cX5_drawn 29 = .ok (.iload_n 1, 1) := by decide +kernel
theorem dX5_drawn_30 : decode cX5_drawn 30 = .ok (.if_icmp .ge 147, 3) := by decide +kernel
theorem dX5_drawn_33 : decode cX5_drawn 33 = .ok (.aload_n 0, 1) := by decide +kernel
theorem dX5_drawn_34 : decode cX5_drawn 34 = .ok (.aload_n 0, 1) := by decide +kernel
theorem dX5_drawn_35 : decode cX5_drawn 35 = .ok (.getfield 252, 3) := by decide +kernel
theorem dX5_drawn_38 : decode cX5_drawn 38 = .ok (.ldc2_w 256, 3) := by decide +kernel
theorem dX5_drawn_41 : decode cX5_drawn 41 = .ok (.lmul, 1) := by decide +kernel
theorem dX5_drawn_42 : decode cX5_drawn 42 = .ok (.ldc2_w 258, 3) := by decide +kernel
theorem dX5_drawn_45 : decode cX5_drawn 45 = .ok (.ladd, 1) := by decide +kernel
theorem dX5_drawn_46 : decode cX5_drawn 46 = .ok (.putfield 252, 3) := by decide +kernel
theorem dX5_drawn_49 : decode cX5_drawn 49 = .ok (.aload_n 0, 1) := by decide +kernel
theorem dX5_drawn_50 : decode cX5_drawn 50 = .ok (.getfield 252, 3) := by decide +kernel
theorem dX5_drawn_53 : decode cX5_drawn 53 = .ok (.bipush 33, 2) := by decide +kernel
theorem dX5_drawn_55 : decode cX5_drawn 55 = .ok (.lushr, 1) := by decide +kernel
theorem dX5_drawn_56 : decode cX5_drawn 56 = .ok (.l2i, 1) := by decide +kernel
theorem dX5_drawn_57 : decode cX5_drawn 57 = .ok (.bipush 10, 2) := by decide +kernel
theorem dX5_drawn_59 : decode cX5_drawn 59 = .ok (.irem, 1) := by decide +kernel
theorem dX5_drawn_60 : decode cX5_drawn 60 = .ok (.istore 4, 2) := by decide +kernel
theorem dX5_drawn_62 : decode cX5_drawn 62 = .ok (.iload 4, 2) := by decide +kernel
theorem dX5_drawn_64 : decode cX5_drawn 64 = .ok (.ifCond .ne 14, 3) := by decide +kernel
theorem dX5_drawn_67 : decode cX5_drawn 67 = .ok (.aload_n 0, 1) := by decide +kernel
theorem dX5_drawn_68 : decode cX5_drawn 68 = .ok (.aload_n 0, 1) := by decide +kernel
theorem dX5_drawn_69 : decode cX5_drawn 69 = .ok (.getfield 26, 3) := by decide +kernel
theorem dX5_drawn_72 : decode cX5_drawn 72 = .ok (.invokevirtual 153, 3) := by decide +kernel
theorem dX5_drawn_75 : decode cX5_drawn 75 = .ok (.goto 78, 3) := by decide +kernel
theorem dX5_drawn_78 : decode cX5_drawn 78 = .ok (.iload 4, 2) := by decide +kernel
theorem dX5_drawn_80 : decode cX5_drawn 80 = .ok (.iconst 1, 1) := by decide +kernel
theorem dX5_drawn_81 : decode cX5_drawn 81 = .ok (.if_icmp .ne 22, 3) := by decide +kernel
theorem dX5_drawn_84 : decode cX5_drawn 84 = .ok (.aload_n 0, 1) := by decide +kernel
theorem dX5_drawn_85 : decode cX5_drawn 85 = .ok (.getfield 26, 3) := by decide +kernel
theorem dX5_drawn_88 : decode cX5_drawn 88 = .ok (.bipush 69, 2) := by decide +kernel
theorem dX5_drawn_90 : decode cX5_drawn 90 = .ok (.iconst 1, 1) := by decide +kernel
theorem dX5_drawn_91 : decode cX5_drawn 91 = .ok (.aload_n 0, 1) := by decide +kernel
theorem dX5_drawn_92 : decode cX5_drawn 92 = .ok (.getfield 26, 3) := by decide +kernel
theorem dX5_drawn_95 : decode cX5_drawn 95 = .ok (.bipush 69, 2) := by decide +kernel
theorem dX5_drawn_97 : decode cX5_drawn 97 = .ok (.iaload, 1) := by decide +kernel
theorem dX5_drawn_98 : decode cX5_drawn 98 = .ok (.isub, 1) := by decide +kernel
theorem dX5_drawn_99 : decode cX5_drawn 99 = .ok (.iastore, 1) := by decide +kernel
theorem dX5_drawn_100 : decode cX5_drawn 100 = .ok (.goto 53, 3) := by decide +kernel
theorem dX5_drawn_103 : decode cX5_drawn 103 = .ok (.iload 4, 2) := by decide +kernel
theorem dX5_drawn_105 : decode cX5_drawn 105 = .ok (.iconst 2, 1) := by decide +kernel
theorem dX5_drawn_106 : decode cX5_drawn 106 = .ok (.if_icmp .le 16, 3) := by decide +kernel
theorem dX5_drawn_109 : decode cX5_drawn 109 = .ok (.aload_n 0, 1) := by decide +kernel
theorem dX5_drawn_110 : decode cX5_drawn 110 = .ok (.aload_n 0, 1) := by decide +kernel
theorem dX5_drawn_111 : decode cX5_drawn 111 = .ok (.getfield 26, 3) := by decide +kernel
theorem dX5_drawn_114 : decode cX5_drawn 114 = .ok (.iconst 1, 1) := by decide +kernel
theorem dX5_drawn_115 : decode cX5_drawn 115 = .ok (.invokevirtual 210, 3) := by decide +kernel
theorem dX5_drawn_118 : decode cX5_drawn 118 = .ok (.pop, 1) := by decide +kernel
theorem dX5_drawn_119 : decode cX5_drawn 119 = .ok (.goto 34, 3) := by decide +kernel
theorem dX5_drawn_122 : decode cX5_drawn 122 = .ok (.aload_n 0, 1) := by decide +kernel
theorem dX5_drawn_123 : decode cX5_drawn 123 = .ok (.getfield 26, 3) := by decide +kernel
theorem dX5_drawn_126 : decode cX5_drawn 126 = .ok (.bipush 70, 2) := by decide +kernel
theorem dX5_drawn_128 : decode cX5_drawn 128 = .ok (.iaload, 1) := by decide +kernel
theorem dX5_drawn_129 : decode cX5_drawn 129 = .ok (.iconst 1, 1) := by decide +kernel
theorem dX5_drawn_130 : decode cX5_drawn 130 = .ok (.if_icmp .ne 15, 3) := by decide +kernel
theorem dX5_drawn_133 : decode cX5_drawn 133 = .ok (.aload_n 0, 1) := by decide +kernel
theorem dX5_drawn_134 : decode cX5_drawn 134 = .ok (.aload_n 0, 1) := by decide +kernel
theorem dX5_drawn_135 : decode cX5_drawn 135 = .ok (.getfield 26, 3) := by decide +kernel
theorem dX5_drawn_138 : decode cX5_drawn 138 = .ok (.invokevirtual 216, 3) := by decide +kernel
theorem dX5_drawn_141 : decode cX5_drawn 141 = .ok (.pop, 1) := by decide +kernel
theorem dX5_drawn_142 : decode cX5_drawn 142 = .ok (.goto 11, 3) := by decide +kernel
theorem dX5_drawn_145 : decode cX5_drawn 145 = .ok (.aload_n 0, 1) := by decide +kernel
theorem dX5_drawn_146 : decode cX5_drawn 146 = .ok (.aload_n 0, 1) := by decide +kernel
theorem dX5_drawn_147 : decode cX5_drawn 147 = .ok (.getfield 26, 3) := by decide +kernel
theorem dX5_drawn_150 : decode cX5_drawn 150 = .ok (.invokevirtual 219, 3) := by decide +kernel
theorem dX5_drawn_153 : decode cX5_drawn 153 = .ok (.iload_n 2, 1) := by decide +kernel
theorem dX5_drawn_154 : decode cX5_drawn 154 = .ok (.aload_n 0, 1) := by decide +kernel
theorem dX5_drawn_155 : decode cX5_drawn 155 = .ok (.getfield 26, 3) := by decide +kernel
theorem dX5_drawn_158 : decode cX5_drawn 158 = .ok (.bipush 72, 2) := by decide +kernel
theorem dX5_drawn_160 : decode cX5_drawn 160 = .ok (.iaload, 1) := by decide +kernel
theorem dX5_drawn_161 : decode cX5_drawn 161 = .ok (.aload_n 0, 1) := by decide +kernel
theorem dX5_drawn_162 : decode cX5_drawn 162 = .ok (.getfield 26, 3) := by decide +kernel
theorem dX5_drawn_165 : decode cX5_drawn 165 = .ok (.bipush 73, 2) := by decide +kernel
theorem dX5_drawn_167 : decode cX5_drawn 167 = .ok (.iaload, 1) := by decide +kernel
theorem dX5_drawn_168 : decode cX5_drawn 168 = .ok (.isub, 1) := by decide +kernel
theorem dX5_drawn_169 : decode cX5_drawn 169 = .ok (.iadd, 1) := by decide +kernel
theorem dX5_drawn_170 : decode cX5_drawn 170 = .ok (.istore_n 2, 1) := by decide +kernel
theorem dX5_drawn_171 : decode cX5_drawn 171 = .ok (.iinc 3 1, 3) := by decide +kernel
theorem dX5_drawn_174 : decode cX5_drawn 174 = .ok (.goto (-146), 3) := by decide +kernel
theorem dX5_drawn_177 : decode cX5_drawn 177 = .ok (.iload_n 2, 1) := by decide +kernel
theorem dX5_drawn_178 : decode cX5_drawn 178 = .ok (.ireturn, 1) := by decide +kernel
theorem dX5_keep_0 : decode cX5_keep 0 = .ok (.iload_n 1, 1) := by decide +kernel
theorem dX5_keep_1 : decode cX5_keep 1 = .ok (.iconst 0, 1) := by decide +kernel
theorem dX5_keep_2 : decode cX5_keep 2 = .ok (.iconst 1, 1) := by decide +kernel
theorem dX5_keep_3 : decode cX5_keep 3 = .ok (.invokestatic 72, 3) := by decide +kernel
theorem dX5_keep_6 : decode cX5_keep 6 = .ok (.ifCond .ne 5, 3) := by decide +kernel
theorem dX5_keep_9 : decode cX5_keep 9 = .ok (.iconst (-1), 1) := by decide +kernel
theorem dX5_keep_10 : decode cX5_keep 10 = .ok (.ireturn, 1) := by decide +kernel
theorem dX5_keep_11 : decode cX5_keep 11 = .ok (.aload_n 0, 1) := by decide +kernel
theorem dX5_keep_12 : decode cX5_keep 12 = .ok (.getfield 35, 3) := by decide +kernel
theorem dX5_keep_15 : decode cX5_keep 15 = .ok (.iload_n 1, 1) := by decide +kernel
theorem dX5_keep_16 : decode cX5_keep 16 = .ok (.iconst 1, 1) := by decide +kernel
theorem dX5_keep_17 : decode cX5_keep 17 = .ok (.bastore, 1) := by decide +kernel
theorem dX5_keep_18 : decode cX5_keep 18 = .ok (.iconst 0, 1) := by decide +kernel
theorem dX5_keep_19 : decode cX5_keep 19 = .ok (.istore_n 2, 1) := by decide +kernel
theorem dX5_keep_20 : decode cX5_keep 20 = .ok (.iload_n 2, 1) := by decide +kernel
theorem dX5_keep_21 : decode cX5_keep 21 = .ok (.bipush 103, 2) := by decide +kernel
theorem dX5_keep_23 : decode cX5_keep 23 = .ok (.if_icmp .ge 26, 3) := by decide +kernel
theorem dX5_keep_26 : decode cX5_keep 26 = .ok (.aload_n 0, 1) := by decide +kernel
theorem dX5_keep_27 : decode cX5_keep 27 = .ok (.getfield 32, 3) := by decide +kernel
theorem dX5_keep_30 : decode cX5_keep 30 = .ok (.bipush 103, 2) := by decide +kernel
theorem dX5_keep_32 : decode cX5_keep 32 = .ok (.iload_n 1, 1) := by decide +kernel
theorem dX5_keep_33 : decode cX5_keep 33 = .ok (.imul, 1) := by decide +kernel
theorem dX5_keep_34 : decode cX5_keep 34 = .ok (.iload_n 2, 1) := by decide +kernel
theorem dX5_keep_35 : decode cX5_keep 35 = .ok (.iadd, 1) := by decide +kernel
theorem dX5_keep_36 : decode cX5_keep 36 = .ok (.aload_n 0, 1) := by decide +kernel
theorem dX5_keep_37 : decode cX5_keep 37 = .ok (.getfield 23, 3) := by decide +kernel
theorem dX5_keep_40 : decode cX5_keep 40 = .ok (.iload_n 2, 1) := by decide +kernel
theorem dX5_keep_41 : decode cX5_keep 41 = .ok (.iaload, 1) := by decide +kernel
theorem dX5_keep_42 : decode cX5_keep 42 = .ok (.iastore, 1) := by decide +kernel
theorem dX5_keep_43 : decode cX5_keep 43 = .ok (.iinc 2 1, 3) := by decide +kernel
theorem dX5_keep_46 : decode cX5_keep 46 = .ok (.goto (-26), 3) := by decide +kernel
theorem dX5_keep_49 : decode cX5_keep 49 = .ok (.aload_n 0, 1) := by decide +kernel
theorem dX5_keep_50 : decode cX5_keep 50 = .ok (.getfield 23, 3) := by decide +kernel
theorem dX5_keep_53 : decode cX5_keep 53 = .ok (.bipush 71, 2) := by decide +kernel
theorem dX5_keep_55 : decode cX5_keep 55 = .ok (.iaload, 1) := by decide +kernel
theorem dX5_keep_56 : decode cX5_keep 56 = .ok (.ireturn, 1) := by decide +kernel
theorem dX5_again_0 : decode cX5_again 0 = .ok (.iload_n 1, 1) := by decide +kernel
theorem dX5_again_1 : decode cX5_again 1 = .ok (.iconst 0, 1) := by decide +kernel
theorem dX5_again_2 : decode cX5_again 2 = .ok (.iconst 1, 1) := by decide +kernel
theorem dX5_again_3 : decode cX5_again 3 = .ok (.invokestatic 72, 3) := by decide +kernel
theorem dX5_again_6 : decode cX5_again 6 = .ok (.ifCond .ne 5, 3) := by decide +kernel
theorem dX5_again_9 : decode cX5_again 9 = .ok (.iconst (-1), 1) := by decide +kernel
theorem dX5_again_10 : decode cX5_again 10 = .ok (.ireturn, 1) := by decide +kernel
theorem dX5_again_11 : decode cX5_again 11 = .ok (.aload_n 0, 1) := by decide +kernel
theorem dX5_again_12 : decode cX5_again 12 = .ok (.getfield 35, 3) := by decide +kernel
theorem dX5_again_15 : decode cX5_again 15 = .ok (.iload_n 1, 1) := by decide +kernel
theorem dX5_again_16 : decode cX5_again 16 = .ok (.baload, 1) := by decide +kernel
theorem dX5_again_17 : decode cX5_again 17 = .ok (.ifCond .ne 6, 3) := by decide +kernel
theorem dX5_again_20 : decode cX5_again 20 = .ok (.bipush (-3), 2) := by decide +kernel
theorem dX5_again_22 : decode cX5_again 22 = .ok (.ireturn, 1) := by decide +kernel
theorem dX5_again_23 : decode cX5_again 23 = .ok (.iconst 0, 1) := by decide +kernel
theorem dX5_again_24 : decode cX5_again 24 = .ok (.istore_n 2, 1) := by decide +kernel
theorem dX5_again_25 : decode cX5_again 25 = .ok (.iload_n 2, 1) := by decide +kernel
theorem dX5_again_26 : decode cX5_again 26 = .ok (.bipush 103, 2) := by decide +kernel
theorem dX5_again_28 : decode cX5_again 28 = .ok (.if_icmp .ge 26, 3) := by decide +kernel
theorem dX5_again_31 : decode cX5_again 31 = .ok (.aload_n 0, 1) := by decide +kernel
theorem dX5_again_32 : decode cX5_again 32 = .ok (.getfield 23, 3) := by decide +kernel
theorem dX5_again_35 : decode cX5_again 35 = .ok (.iload_n 2, 1) := by decide +kernel
theorem dX5_again_36 : decode cX5_again 36 = .ok (.aload_n 0, 1) := by decide +kernel
theorem dX5_again_37 : decode cX5_again 37 = .ok (.getfield 32, 3) := by decide +kernel
theorem dX5_again_40 : decode cX5_again 40 = .ok (.bipush 103, 2) := by decide +kernel
theorem dX5_again_42 : decode cX5_again 42 = .ok (.iload_n 1, 1) := by decide +kernel
theorem dX5_again_43 : decode cX5_again 43 = .ok (.imul, 1) := by decide +kernel
theorem dX5_again_44 : decode cX5_again 44 = .ok (.iload_n 2, 1) := by decide +kernel
theorem dX5_again_45 : decode cX5_again 45 = .ok (.iadd, 1) := by decide +kernel
theorem dX5_again_46 : decode cX5_again 46 = .ok (.iaload, 1) := by decide +kernel
theorem dX5_again_47 : decode cX5_again 47 = .ok (.iastore, 1) := by decide +kernel
theorem dX5_again_48 : decode cX5_again 48 = .ok (.iinc 2 1, 3) := by decide +kernel
theorem dX5_again_51 : decode cX5_again 51 = .ok (.goto (-26), 3) := by decide +kernel
theorem dX5_again_54 : decode cX5_again 54 = .ok (.aload_n 0, 1) := by decide +kernel
theorem dX5_again_55 : decode cX5_again 55 = .ok (.iconst 0, 1) := by decide +kernel
theorem dX5_again_56 : decode cX5_again 56 = .ok (.putfield 139, 3) := by decide +kernel
theorem dX5_again_59 : decode cX5_again 59 = .ok (.aload_n 0, 1) := by decide +kernel
theorem dX5_again_60 : decode cX5_again 60 = .ok (.getfield 23, 3) := by decide +kernel
theorem dX5_again_63 : decode cX5_again 63 = .ok (.bipush 71, 2) := by decide +kernel
theorem dX5_again_65 : decode cX5_again 65 = .ok (.iaload, 1) := by decide +kernel
theorem dX5_again_66 : decode cX5_again 66 = .ok (.ireturn, 1) := by decide +kernel
