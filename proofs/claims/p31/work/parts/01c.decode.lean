theorem dX8_likely_76 : decode cX8_likely 76 = .ok (.goto (-43), 3) := by decide +kernel
theorem dX8_likely_79 : decode cX8_likely 79 = .ok (.iload_n 3, 1) := by decide +kernel
theorem dX8_likely_80 : decode cX8_likely 80 = .ok (.ifCond .ne 26, 3) := by decide +kernel
theorem dX8_likely_83 : decode cX8_likely 83 = .ok (.aload_n 0, 1) := by decide +kernel
theorem dX8_likely_84 : decode cX8_likely 84 = .ok (.getfield 16, 3) := by decide +kernel
theorem dX8_likely_87 : decode cX8_likely 87 = .ok (.aload_n 0, 1) := by decide +kernel
theorem dX8_likely_88 : decode cX8_likely 88 = .ok (.getfield 26, 3) := by decide +kernel
theorem dX8_likely_91 : decode cX8_likely 91 = .ok (.iload_n 1, 1) := by decide +kernel
theorem dX8_likely_92 : decode cX8_likely 92 = .ok (.iload_n 2, 1) := by decide +kernel
theorem dX8_likely_93 : decode cX8_likely 93 = .ok (.bipush 31, 2) := by decide +kernel
theorem dX8_likely_95 : decode cX8_likely 95 = .ok (.aload_n 0, 1) := by decide +kernel
theorem dX8_likely_96 : decode cX8_likely 96 = .ok (.getfield 16, 3) := by decide +kernel
theorem dX8_likely_99 : decode cX8_likely 99 = .ok (.invokevirtual 186, 3) := by decide +kernel
theorem dX8_likely_102 : decode cX8_likely 102 = .ok (.invokevirtual 189, 3) := by decide +kernel
theorem dX8_likely_105 : decode cX8_likely 105 = .ok (.ireturn, 1) := by decide +kernel
theorem dX8_likely_106 : decode cX8_likely 106 = .ok (.iload 4, 2) := by decide +kernel
theorem dX8_likely_108 : decode cX8_likely 108 = .ok (.ifCond .le 8, 3) := by decide +kernel
theorem dX8_likely_111 : decode cX8_likely 111 = .ok (.iload 4, 2) := by decide +kernel
theorem dX8_likely_113 : decode cX8_likely 113 = .ok (.goto 4, 3) := by decide +kernel
theorem dX8_likely_116 : decode cX8_likely 116 = .ok (.iconst 1, 1) := by decide +kernel
theorem dX8_likely_117 : decode cX8_likely 117 = .ok (.ireturn, 1) := by decide +kernel
theorem dX8_next_0 : decode cX8_next 0 = .ok (.aload_n 0, 1) := by decide +kernel
theorem dX8_next_1 : decode cX8_next 1 = .ok (.iload_n 1, 1) := by decide +kernel
theorem dX8_next_2 : decode cX8_next 2 = .ok (.invokevirtual 146, 3) := by decide +kernel
theorem dX8_next_5 : decode cX8_next 5 = .ok (.ifCond .ne 5, 3) := by decide +kernel
theorem dX8_next_8 : decode cX8_next 8 = .ok (.iconst (-1), 1) := by decide +kernel
theorem dX8_next_9 : decode cX8_next 9 = .ok (.ireturn, 1) := by decide +kernel
theorem dX8_next_10 : decode cX8_next 10 = .ok (.aload_n 0, 1) := by decide +kernel
theorem dX8_next_11 : decode cX8_next 11 = .ok (.getfield 26, 3) := by decide +kernel
theorem dX8_next_14 : decode cX8_next 14 = .ok (.iload_n 1, 1) := by decide +kernel
theorem dX8_next_15 : decode cX8_next 15 = .ok (.invokevirtual 165, 3) := by decide +kernel
theorem dX8_next_18 : decode cX8_next 18 = .ok (.ifCond .eq 27, 3) := by decide +kernel
theorem dX8_next_21 : decode cX8_next 21 = .ok (.aload_n 0, 1) := by decide +kernel
theorem dX8_next_22 : decode cX8_next 22 = .ok (.getfield 16, 3) := by decide +kernel
theorem dX8_next_25 : decode cX8_next 25 = .ok (.aload_n 0, 1) := by decide +kernel
theorem dX8_next_26 : decode cX8_next 26 = .ok (.getfield 26, 3) := by decide +kernel
theorem dX8_next_29 : decode cX8_next 29 = .ok (.iload_n 1, 1) := by decide +kernel
theorem dX8_next_30 : decode cX8_next 30 = .ok (.bipush 31, 2) := by decide +kernel
theorem dX8_next_32 : decode cX8_next 32 = .ok (.aload_n 0, 1) := by decide +kernel
theorem dX8_next_33 : decode cX8_next 33 = .ok (.getfield 16, 3) := by decide +kernel
theorem dX8_next_36 : decode cX8_next 36 = .ok (.invokevirtual 186, 3) := by decide +kernel
theorem dX8_next_39 : decode cX8_next 39 = .ok (.invokevirtual 193, 3) := by decide +kernel
theorem dX8_next_42 : decode cX8_next 42 = .ok (.goto 5, 3) := by decide +kernel
theorem dX8_next_45 : decode cX8_next 45 = .ok (.bipush (-2), 2) := by decide +kernel
theorem dX8_next_47 : decode cX8_next 47 = .ok (.ireturn, 1) := by decide +kernel
theorem dX8_fewest_0 : decode cX8_fewest 0 = .ok (.aload_n 0, 1) := by decide +kernel
theorem dX8_fewest_1 : decode cX8_fewest 1 = .ok (.iload_n 1, 1) := by decide +kernel
theorem dX8_fewest_2 : decode cX8_fewest 2 = .ok (.invokevirtual 146, 3) := by decide +kernel
theorem dX8_fewest_5 : decode cX8_fewest 5 = .ok (.ifCond .eq 20, 3) := by decide +kernel
theorem dX8_fewest_8 : decode cX8_fewest 8 = .ok (.aload_n 0, 1) := by decide +kernel
theorem dX8_fewest_9 : decode cX8_fewest 9 = .ok (.iload_n 2, 1) := by decide +kernel
theorem dX8_fewest_10 : decode cX8_fewest 10 = .ok (.invokevirtual 123, 3) := by decide +kernel
theorem dX8_fewest_13 : decode cX8_fewest 13 = .ok (.ifCond .eq 12, 3) := by decide +kernel
theorem dX8_fewest_16 : decode cX8_fewest 16 = .ok (.iload_n 3, 1) := by decide +kernel
theorem dX8_fewest_17 : decode cX8_fewest 17 = .ok (.ifCond .lt 8, 3) := by decide +kernel
theorem dX8_fewest_20 : decode cX8_fewest 20 = .ok (.iload_n 3, 1) := by decide +kernel
theorem dX8_fewest_21 : decode cX8_fewest 21 = .ok (.iconst 3, 1) := by decide +kernel
theorem dX8_fewest_22 : decode cX8_fewest 22 = .ok (.if_icmp .le 5, 3) := by decide +kernel
theorem dX8_fewest_25 : decode cX8_fewest 25 = .ok (.iconst (-1), 1) := by decide +kernel
theorem dX8_fewest_26 : decode cX8_fewest 26 = .ok (.ireturn, 1) := by decide +kernel
theorem dX8_fewest_27 : decode cX8_fewest 27 = .ok (.aload_n 0, 1) := by decide +kernel
theorem dX8_fewest_28 : decode cX8_fewest 28 = .ok (.getfield 26, 3) := by decide +kernel
theorem dX8_fewest_31 : decode cX8_fewest 31 = .ok (.iload_n 1, 1) := by decide +kernel
theorem dX8_fewest_32 : decode cX8_fewest 32 = .ok (.invokevirtual 165, 3) := by decide +kernel
theorem dX8_fewest_35 : decode cX8_fewest 35 = .ok (.ifCond .ne 6, 3) := by decide +kernel
theorem dX8_fewest_38 : decode cX8_fewest 38 = .ok (.bipush (-2), 2) := by decide +kernel
theorem dX8_fewest_40 : decode cX8_fewest 40 = .ok (.ireturn, 1) := by decide +kernel
theorem dX8_fewest_41 : decode cX8_fewest 41 = .ok (.aload_n 0, 1) := by decide +kernel
theorem dX8_fewest_42 : decode cX8_fewest 42 = .ok (.getfield 62, 3) := by decide +kernel
theorem dX8_fewest_45 : decode cX8_fewest 45 = .ok (.aload_n 0, 1) := by decide +kernel
theorem dX8_fewest_46 : decode cX8_fewest 46 = .ok (.getfield 16, 3) := by decide +kernel
theorem dX8_fewest_49 : decode cX8_fewest 49 = .ok (.aload_n 0, 1) := by decide +kernel
theorem dX8_fewest_50 : decode cX8_fewest 50 = .ok (.getfield 26, 3) := by decide +kernel
theorem dX8_fewest_53 : decode cX8_fewest 53 = .ok (.iload_n 1, 1) := by decide +kernel
theorem dX8_fewest_54 : decode cX8_fewest 54 = .ok (.invokevirtual 197, 3) := by decide +kernel
theorem dX8_fewest_57 : decode cX8_fewest 57 = .ok (.iload_n 3, 1) := by decide +kernel
theorem dX8_fewest_58 : decode cX8_fewest 58 = .ok (.ifCond .ne 14, 3) := by decide +kernel
theorem dX8_fewest_61 : decode cX8_fewest 61 = .ok (.aload_n 0, 1) := by decide +kernel
theorem dX8_fewest_62 : decode cX8_fewest 62 = .ok (.getfield 62, 3) := by decide +kernel
theorem dX8_fewest_65 : decode cX8_fewest 65 = .ok (.iload_n 2, 1) := by decide +kernel
theorem dX8_fewest_66 : decode cX8_fewest 66 = .ok (.invokevirtual 201, 3) := by decide +kernel
theorem dX8_fewest_69 : decode cX8_fewest 69 = .ok (.goto 14, 3) := by decide +kernel
theorem dX8_fewest_72 : decode cX8_fewest 72 = .ok (.aload_n 0, 1) := by decide +kernel
theorem dX8_fewest_73 : decode cX8_fewest 73 = .ok (.getfield 62, 3) := by decide +kernel
theorem dX8_fewest_76 : decode cX8_fewest 76 = .ok (.iload_n 2, 1) := by decide +kernel
theorem dX8_fewest_77 : decode cX8_fewest 77 = .ok (.iload_n 3, 1) := by decide +kernel
theorem dX8_fewest_78 : decode cX8_fewest 78 = .ok (.iconst 1, 1) := by decide +kernel
theorem dX8_fewest_79 : decode cX8_fewest 79 = .ok (.isub, 1) := by decide +kernel
theorem dX8_fewest_80 : decode cX8_fewest 80 = .ok (.invokevirtual 204, 3) := by decide +kernel
theorem dX8_fewest_83 : decode cX8_fewest 83 = .ok (.ireturn, 1) := by decide +kernel
theorem dX8_tells_0 : decode cX8_tells 0 = .ok (.aload_n 0, 1) := by decide +kernel
theorem dX8_tells_1 : decode cX8_tells 1 = .ok (.iload_n 1, 1) := by decide +kernel
theorem dX8_tells_2 : decode cX8_tells 2 = .ok (.invokevirtual 146, 3) := by decide +kernel
theorem dX8_tells_5 : decode cX8_tells 5 = .ok (.ifCond .ne 5, 3) := by decide +kernel
theorem dX8_tells_8 : decode cX8_tells 8 = .ok (.iconst (-1), 1) := by decide +kernel
theorem dX8_tells_9 : decode cX8_tells 9 = .ok (.ireturn, 1) := by decide +kernel
theorem dX8_tells_10 : decode cX8_tells 10 = .ok (.aload_n 0, 1) := by decide +kernel
theorem dX8_tells_11 : decode cX8_tells 11 = .ok (.getfield 26, 3) := by decide +kernel
theorem dX8_tells_14 : decode cX8_tells 14 = .ok (.iload_n 1, 1) := by decide +kernel
theorem dX8_tells_15 : decode cX8_tells 15 = .ok (.invokevirtual 165, 3) := by decide +kernel
theorem dX8_tells_18 : decode cX8_tells 18 = .ok (.ifCond .ne 6, 3) := by decide +kernel
theorem dX8_tells_21 : decode cX8_tells 21 = .ok (.bipush (-2), 2) := by decide +kernel
theorem dX8_tells_23 : decode cX8_tells 23 = .ok (.ireturn, 1) := by decide +kernel
theorem dX8_tells_24 : decode cX8_tells 24 = .ok (.aload_n 0, 1) := by decide +kernel
theorem dX8_tells_25 : decode cX8_tells 25 = .ok (.getfield 26, 3) := by decide +kernel
theorem dX8_tells_28 : decode cX8_tells 28 = .ok (.iload_n 1, 1) := by decide +kernel
theorem dX8_tells_29 : decode cX8_tells 29 = .ok (.invokevirtual 155, 3) := by decide +kernel
theorem dX8_tells_32 : decode cX8_tells 32 = .ok (.ifCond .eq 11, 3) := by decide +kernel
theorem dX8_tells_35 : decode cX8_tells 35 = .ok (.aload_n 0, 1) := by decide +kernel
theorem dX8_tells_36 : decode cX8_tells 36 = .ok (.iload_n 1, 1) := by decide +kernel
theorem dX8_tells_37 : decode cX8_tells 37 = .ok (.invokevirtual 207, 3) := by decide +kernel
theorem dX8_tells_40 : decode cX8_tells 40 = .ok (.goto 5, 3) := by decide +kernel
theorem dX8_tells_43 : decode cX8_tells 43 = .ok (.bipush (-4), 2) := by decide +kernel
theorem dX8_tells_45 : decode cX8_tells 45 = .ok (.ireturn, 1) := by decide +kernel
theorem dX8_send_0 : decode cX8_send 0 = .ok (.iload_n 1, 1) := by decide +kernel
theorem dX8_send_1 : decode cX8_send 1 = .ok (.iconst (-1), 1) := by decide +kernel
theorem dX8_send_2 : decode cX8_send 2 = .ok (.if_icmp .eq 13, 3) := by decide +kernel
theorem dX8_send_5 : decode cX8_send 5 = .ok (.aload_n 0, 1) := by decide +kernel
theorem dX8_send_6 : decode cX8_send 6 = .ok (.iload_n 1, 1) := by decide +kernel
theorem dX8_send_7 : decode cX8_send 7 = .ok (.invokevirtual 146, 3) := by decide +kernel
theorem dX8_send_10 : decode cX8_send 10 = .ok (.ifCond .ne 5, 3) := by decide +kernel
theorem dX8_send_13 : decode cX8_send 13 = .ok (.iconst (-1), 1) := by decide +kernel
theorem dX8_send_14 : decode cX8_send 14 = .ok (.ireturn, 1) := by decide +kernel
theorem dX8_send_15 : decode cX8_send 15 = .ok (.aload_n 0, 1) := by decide +kernel
theorem dX8_send_16 : decode cX8_send 16 = .ok (.getfield 69, 3) := by decide +kernel
theorem dX8_send_19 : decode cX8_send 19 = .ok (.invokevirtual 210, 3) := by decide +kernel
theorem dX8_send_22 : decode cX8_send 22 = .ok (.iconst 0, 1) := by decide +kernel
theorem dX8_send_23 : decode cX8_send 23 = .ok (.istore_n 2, 1) := by decide +kernel
theorem dX8_send_24 : decode cX8_send 24 = .ok (.iload_n 2, 1) := by decide +kernel
theorem dX8_send_25 : decode cX8_send 25 = .ok (.aload_n 0, 1) := by decide +kernel
theorem dX8_send_26 : decode cX8_send 26 = .ok (.getfield 16, 3) := by decide +kernel
theorem dX8_send_29 : decode cX8_send 29 = .ok (.invokevirtual 111, 3) := by decide +kernel
theorem dX8_send_32 : decode cX8_send 32 = .ok (.if_icmp .ge 37, 3) := by decide +kernel
theorem dX8_send_35 : decode cX8_send 35 = .ok (.aload_n 0, 1) := by decide +kernel
theorem dX8_send_36 : decode cX8_send 36 = .ok (.getfield 26, 3) := by decide +kernel
theorem dX8_send_39 : decode cX8_send 39 = .ok (.iload_n 2, 1) := by decide +kernel
theorem dX8_send_40 : decode cX8_send 40 = .ok (.invokevirtual 172, 3) := by decide +kernel
theorem dX8_send_43 : decode cX8_send 43 = .ok (.ifCond .eq 20, 3) := by decide +kernel
theorem dX8_send_46 : decode cX8_send 46 = .ok (.aload_n 0, 1) := by decide +kernel
theorem dX8_send_47 : decode cX8_send 47 = .ok (.getfield 69, 3) := by decide +kernel
theorem dX8_send_50 : decode cX8_send 50 = .ok (.iload_n 2, 1) := by decide +kernel
theorem dX8_send_51 : decode cX8_send 51 = .ok (.aload_n 0, 1) := by decide +kernel
theorem dX8_send_52 : decode cX8_send 52 = .ok (.getfield 26, 3) := by decide +kernel
theorem dX8_send_55 : decode cX8_send 55 = .ok (.iload_n 2, 1) := by decide +kernel
theorem dX8_send_56 : decode cX8_send 56 = .ok (.iconst 1, 1) := by decide +kernel
theorem dX8_send_57 : decode cX8_send 57 = .ok (.invokevirtual 149, 3) := by decide +kernel
theorem dX8_send_60 : decode cX8_send 60 = .ok (.invokevirtual 213, 3) := by decide +kernel
theorem dX8_send_63 : decode cX8_send 63 = .ok (.iinc 2 1, 3) := by decide +kernel
theorem dX8_send_66 : decode cX8_send 66 = .ok (.goto (-42), 3) := by decide +kernel
theorem dX8_send_69 : decode cX8_send 69 = .ok (.iconst 0, 1) := by decide +kernel
theorem dX8_send_70 : decode cX8_send 70 = .ok (.istore_n 2, 1) := by decide +kernel
theorem dX8_send_71 : decode cX8_send 71 = .ok (.iload_n 2, 1) := by decide +kernel
theorem dX8_send_72 : decode cX8_send 72 = .ok (.aload_n 0, 1) := by decide +kernel
theorem dX8_send_73 : decode cX8_send 73 = .ok (.getfield 69, 3) := by decide +kernel
theorem dX8_send_76 : decode cX8_send 76 = .ok (.invokevirtual 217, 3) := by decide +kernel
theorem dX8_send_79 : decode cX8_send 79 = .ok (.if_icmp .ge 91, 3) := by decide +kernel
theorem dX8_send_82 : decode cX8_send 82 = .ok (.aload_n 0, 1) := by decide +kernel
theorem dX8_send_83 : decode cX8_send 83 = .ok (.getfield 62, 3) := by decide +kernel
theorem dX8_send_86 : decode cX8_send 86 = .ok (.aload_n 0, 1) := by decide +kernel
theorem dX8_send_87 : decode cX8_send 87 = .ok (.getfield 16, 3) := by decide +kernel
theorem dX8_send_90 : decode cX8_send 90 = .ok (.aload_n 0, 1) := by decide +kernel
theorem dX8_send_91 : decode cX8_send 91 = .ok (.getfield 26, 3) := by decide +kernel
theorem dX8_send_94 : decode cX8_send 94 = .ok (.aload_n 0, 1) := by decide +kernel
theorem dX8_send_95 : decode cX8_send 95 = .ok (.getfield 69, 3) := by decide +kernel
theorem dX8_send_98 : decode cX8_send 98 = .ok (.iload_n 2, 1) := by decide +kernel
theorem dX8_send_99 : decode cX8_send 99 = .ok (.invokevirtual 218, 3) := by decide +kernel
theorem dX8_send_102 : decode cX8_send 102 = .ok (.invokevirtual 197, 3) := by decide +kernel
theorem dX8_send_105 : decode cX8_send 105 = .ok (.iconst 0, 1) := by decide +kernel
theorem dX8_send_106 : decode cX8_send 106 = .ok (.istore_n 3, 1) := by decide +kernel
theorem dX8_send_107 : decode cX8_send 107 = .ok (.iload_n 3, 1) := by decide +kernel
theorem dX8_send_108 : decode cX8_send 108 = .ok (.aload_n 0, 1) := by decide +kernel
theorem dX8_send_109 : decode cX8_send 109 = .ok (.getfield 69, 3) := by decide +kernel
theorem dX8_send_112 : decode cX8_send 112 = .ok (.invokevirtual 217, 3) := by decide +kernel
theorem dX8_send_115 : decode cX8_send 115 = .ok (.if_icmp .ge 49, 3) := by decide +kernel
theorem dX8_send_118 : decode cX8_send 118 = .ok (.aload_n 0, 1) := by decide +kernel
theorem dX8_send_119 : decode cX8_send 119 = .ok (.getfield 62, 3) := by decide +kernel
theorem dX8_send_122 : decode cX8_send 122 = .ok (.aload_n 0, 1) := by decide +kernel
theorem dX8_send_123 : decode cX8_send 123 = .ok (.getfield 69, 3) := by decide +kernel
theorem dX8_send_126 : decode cX8_send 126 = .ok (.iload_n 3, 1) := by decide +kernel
theorem dX8_send_127 : decode cX8_send 127 = .ok (.invokevirtual 221, 3) := by decide +kernel
theorem dX8_send_130 : decode cX8_send 130 = .ok (.invokevirtual 201, 3) := by decide +kernel
theorem dX8_send_133 : decode cX8_send 133 = .ok (.istore 4, 2) := by decide +kernel
theorem dX8_send_135 : decode cX8_send 135 = .ok (.aload_n 0, 1) := by decide +kernel
theorem dX8_send_136 : decode cX8_send 136 = .ok (.getfield 69, 3) := by decide +kernel
theorem dX8_send_139 : decode cX8_send 139 = .ok (.iload_n 2, 1) := by decide +kernel
theorem dX8_send_140 : decode cX8_send 140 = .ok (.iload_n 3, 1) := by decide +kernel
theorem dX8_send_141 : decode cX8_send 141 = .ok (.iload 4, 2) := by decide +kernel
theorem dX8_send_143 : decode cX8_send 143 = .ok (.bipush (-4), 2) := by decide +kernel
theorem dX8_send_145 : decode cX8_send 145 = .ok (.if_icmp .ne 8, 3) := by decide +kernel
theorem dX8_send_148 : decode cX8_send 148 = .ok (.bipush 9, 2) := by decide +kernel
theorem dX8_send_150 : decode cX8_send 150 = .ok (.goto 5, 3) := by decide +kernel
theorem dX8_send_153 : decode cX8_send 153 = .ok (.iload 4, 2) := by decide +kernel
theorem dX8_send_155 : decode cX8_send 155 = .ok (.invokevirtual 224, 3) := by decide +kernel
theorem dX8_send_158 : decode cX8_send 158 = .ok (.iinc 3 1, 3) := by decide +kernel
theorem dX8_send_161 : decode cX8_send 161 = .ok (.goto (-54), 3) := by decide +kernel
theorem dX8_send_164 : decode cX8_send 164 = .ok (.iinc 2 1, 3) := by decide +kernel
theorem dX8_send_167 : decode cX8_send 167 = .ok (.goto (-96), 3) := by decide +kernel
theorem dX8_send_170 : decode cX8_send 170 = .ok (.aload_n 0, 1) := by decide +kernel
theorem dX8_send_171 : decode cX8_send 171 = .ok (.getfield 69, 3) := by decide +kernel
theorem dX8_send_174 : decode cX8_send 174 = .ok (.invokevirtual 227, 3) := by decide +kernel
theorem dX8_send_177 : decode cX8_send 177 = .ok (.iload_n 1, 1) := by decide +kernel
theorem dX8_send_178 : decode cX8_send 178 = .ok (.iconst (-1), 1) := by decide +kernel
theorem dX8_send_179 : decode cX8_send 179 = .ok (.if_icmp .ne 13, 3) := by decide +kernel
theorem dX8_send_182 : decode cX8_send 182 = .ok (.aload_n 0, 1) := by decide +kernel
theorem dX8_send_183 : decode cX8_send 183 = .ok (.getfield 69, 3) := by decide +kernel
theorem dX8_send_186 : decode cX8_send 186 = .ok (.invokevirtual 230, 3) := by decide +kernel
theorem dX8_send_189 : decode cX8_send 189 = .ok (.goto 11, 3) := by decide +kernel
theorem dX8_send_192 : decode cX8_send 192 = .ok (.aload_n 0, 1) := by decide +kernel
theorem dX8_send_193 : decode cX8_send 193 = .ok (.getfield 69, 3) := by decide +kernel
theorem dX8_send_196 : decode cX8_send 196 = .ok (.iload_n 1, 1) := by decide +kernel
theorem dX8_send_197 : decode cX8_send 197 = .ok (.invokevirtual 233, 3) := by decide +kernel
theorem dX8_send_200 : decode cX8_send 200 = .ok (.ireturn, 1) := by decide +kernel
theorem dX8_queue_0 : decode cX8_queue 0 = .ok (.iload_n 1, 1) := by decide +kernel
theorem dX8_queue_1 : decode cX8_queue 1 = .ok (.iconst (-1), 1) := by decide +kernel
theorem dX8_queue_2 : decode cX8_queue 2 = .ok (.if_icmp .ge 5, 3) := by decide +kernel
theorem dX8_queue_5 : decode cX8_queue 5 = .ok (.iconst (-1), 1) := by decide +kernel
theorem dX8_queue_6 : decode cX8_queue 6 = .ok (.ireturn, 1) := by decide +kernel
theorem dX8_queue_7 : decode cX8_queue 7 = .ok (.aload_n 0, 1) := by decide +kernel
theorem dX8_queue_8 : decode cX8_queue 8 = .ok (.getfield 76, 3) := by decide +kernel
theorem dX8_queue_11 : decode cX8_queue 11 = .ok (.invokevirtual 236, 3) := by decide +kernel
theorem dX8_queue_14 : decode cX8_queue 14 = .ok (.iconst 0, 1) := by decide +kernel
theorem dX8_queue_15 : decode cX8_queue 15 = .ok (.istore_n 2, 1) := by decide +kernel
theorem dX8_queue_16 : decode cX8_queue 16 = .ok (.iload_n 2, 1) := by decide +kernel
theorem dX8_queue_17 : decode cX8_queue 17 = .ok (.aload_n 0, 1) := by decide +kernel
theorem dX8_queue_18 : decode cX8_queue 18 = .ok (.getfield 16, 3) := by decide +kernel
theorem dX8_queue_21 : decode cX8_queue 21 = .ok (.invokevirtual 111, 3) := by decide +kernel
theorem dX8_queue_24 : decode cX8_queue 24 = .ok (.if_icmp .ge 47, 3) := by decide +kernel
theorem dX8_queue_27 : decode cX8_queue 27 = .ok (.aload_n 0, 1) := by decide +kernel
theorem dX8_queue_28 : decode cX8_queue 28 = .ok (.getfield 26, 3) := by decide +kernel
theorem dX8_queue_31 : decode cX8_queue 31 = .ok (.iload_n 2, 1) := by decide +kernel
theorem dX8_queue_32 : decode cX8_queue 32 = .ok (.invokevirtual 165, 3) := by decide +kernel
theorem dX8_queue_35 : decode cX8_queue 35 = .ok (.ifCond .eq 30, 3) := by decide +kernel
theorem dX8_queue_38 : decode cX8_queue 38 = .ok (.aload_n 0, 1) := by decide +kernel
theorem dX8_queue_39 : decode cX8_queue 39 = .ok (.iload_n 2, 1) := by decide +kernel
theorem dX8_queue_40 : decode cX8_queue 40 = .ok (.invokevirtual 237, 3) := by decide +kernel
theorem dX8_queue_43 : decode cX8_queue 43 = .ok (.istore_n 3, 1) := by decide +kernel
theorem dX8_queue_44 : decode cX8_queue 44 = .ok (.aload_n 0, 1) := by decide +kernel
theorem dX8_queue_45 : decode cX8_queue 45 = .ok (.getfield 76, 3) := by decide +kernel
theorem dX8_queue_48 : decode cX8_queue 48 = .ok (.iload_n 2, 1) := by decide +kernel
theorem dX8_queue_49 : decode cX8_queue 49 = .ok (.iload_n 3, 1) := by decide +kernel
theorem dX8_queue_50 : decode cX8_queue 50 = .ok (.bipush (-4), 2) := by decide +kernel
theorem dX8_queue_52 : decode cX8_queue 52 = .ok (.if_icmp .ne 7, 3) := by decide +kernel
theorem dX8_queue_55 : decode cX8_queue 55 = .ok (.iconst 5, 1) := by decide +kernel
theorem dX8_queue_56 : decode cX8_queue 56 = .ok (.goto 6, 3) := by decide +kernel
theorem dX8_queue_59 : decode cX8_queue 59 = .ok (.iconst 1, 1) := by decide +kernel
theorem dX8_queue_60 : decode cX8_queue 60 = .ok (.iload_n 3, 1) := by decide +kernel
theorem dX8_queue_61 : decode cX8_queue 61 = .ok (.iadd, 1) := by decide +kernel
theorem dX8_queue_62 : decode cX8_queue 62 = .ok (.invokevirtual 240, 3) := by decide +kernel
theorem dX8_queue_65 : decode cX8_queue 65 = .ok (.iinc 2 1, 3) := by decide +kernel
theorem dX8_queue_68 : decode cX8_queue 68 = .ok (.goto (-52), 3) := by decide +kernel
theorem dX8_queue_71 : decode cX8_queue 71 = .ok (.iload_n 1, 1) := by decide +kernel
theorem dX8_queue_72 : decode cX8_queue 72 = .ok (.iconst (-1), 1) := by decide +kernel
theorem dX8_queue_73 : decode cX8_queue 73 = .ok (.if_icmp .ne 13, 3) := by decide +kernel
theorem dX8_queue_76 : decode cX8_queue 76 = .ok (.aload_n 0, 1) := by decide +kernel
theorem dX8_queue_77 : decode cX8_queue 77 = .ok (.getfield 76, 3) := by decide +kernel
theorem dX8_queue_80 : decode cX8_queue 80 = .ok (.invokevirtual 241, 3) := by decide +kernel
theorem dX8_queue_83 : decode cX8_queue 83 = .ok (.goto 11, 3) := by decide +kernel
theorem dX8_queue_86 : decode cX8_queue 86 = .ok (.aload_n 0, 1) := by decide +kernel
theorem dX8_queue_87 : decode cX8_queue 87 = .ok (.getfield 76, 3) := by decide +kernel
theorem dX8_queue_90 : decode cX8_queue 90 = .ok (.iload_n 1, 1) := by decide +kernel
theorem dX8_queue_91 : decode cX8_queue 91 = .ok (.invokevirtual 244, 3) := by decide +kernel
theorem dX8_queue_94 : decode cX8_queue 94 = .ok (.ireturn, 1) := by decide +kernel
theorem dX8_parted_0 : decode cX8_parted 0 = .ok (.aload_n 0, 1) := by decide +kernel
theorem dX8_parted_1 : decode cX8_parted 1 = .ok (.iload_n 1, 1) := by decide +kernel
theorem dX8_parted_2 : decode cX8_parted 2 = .ok (.invokevirtual 123, 3) := by decide +kernel
theorem dX8_parted_5 : decode cX8_parted 5 = .ok (.ifCond .eq 16, 3) := by decide +kernel
theorem dX8_parted_8 : decode cX8_parted 8 = .ok (.aload_n 0, 1) := by decide +kernel
theorem dX8_parted_9 : decode cX8_parted 9 = .ok (.iload_n 2, 1) := by decide +kernel
theorem dX8_parted_10 : decode cX8_parted 10 = .ok (.invokevirtual 123, 3) := by decide +kernel
theorem dX8_parted_13 : decode cX8_parted 13 = .ok (.ifCond .eq 8, 3) := by decide +kernel
theorem dX8_parted_16 : decode cX8_parted 16 = .ok (.iload_n 1, 1) := by decide +kernel
theorem dX8_parted_17 : decode cX8_parted 17 = .ok (.iload_n 2, 1) := by decide +kernel
theorem dX8_parted_18 : decode cX8_parted 18 = .ok (.if_icmp .ne 5, 3) := by decide +kernel
theorem dX8_parted_21 : decode cX8_parted 21 = .ok (.iconst (-1), 1) := by decide +kernel
theorem dX8_parted_22 : decode cX8_parted 22 = .ok (.ireturn, 1) := by decide +kernel
theorem dX8_parted_23 : decode cX8_parted 23 = .ok (.iconst 0, 1) := by decide +kernel
theorem dX8_parted_24 : decode cX8_parted 24 = .ok (.istore_n 3, 1) := by decide +kernel
theorem dX8_parted_25 : decode cX8_parted 25 = .ok (.iconst 0, 1) := by decide +kernel
theorem dX8_parted_26 : decode cX8_parted 26 = .ok (.istore 4, 2) := by decide +kernel
theorem dX8_parted_28 : decode cX8_parted 28 = .ok (.iload 4, 2) := by decide +kernel
theorem dX8_parted_30 : decode cX8_parted 30 = .ok (.aload_n 0, 1) := by decide +kernel
theorem dX8_parted_31 : decode cX8_parted 31 = .ok (.getfield 16, 3) := by decide +kernel
theorem dX8_parted_34 : decode cX8_parted 34 = .ok (.invokevirtual 245, 3) := by decide +kernel
theorem dX8_parted_37 : decode cX8_parted 37 = .ok (.if_icmp .ge 55, 3) := by decide +kernel
theorem dX8_parted_40 : decode cX8_parted 40 = .ok (.aload_n 0, 1) := by decide +kernel
theorem dX8_parted_41 : decode cX8_parted 41 = .ok (.getfield 16, 3) := by decide +kernel
theorem dX8_parted_44 : decode cX8_parted 44 = .ok (.iconst 0, 1) := by decide +kernel
theorem dX8_parted_45 : decode cX8_parted 45 = .ok (.iload 4, 2) := by decide +kernel
theorem dX8_parted_47 : decode cX8_parted 47 = .ok (.iload_n 1, 1) := by decide +kernel
theorem dX8_parted_48 : decode cX8_parted 48 = .ok (.aload_n 0, 1) := by decide +kernel
theorem dX8_parted_49 : decode cX8_parted 49 = .ok (.getfield 16, 3) := by decide +kernel
theorem dX8_parted_52 : decode cX8_parted 52 = .ok (.invokevirtual 186, 3) := by decide +kernel
theorem dX8_parted_55 : decode cX8_parted 55 = .ok (.invokevirtual 248, 3) := by decide +kernel
theorem dX8_parted_58 : decode cX8_parted 58 = .ok (.aload_n 0, 1) := by decide +kernel
theorem dX8_parted_59 : decode cX8_parted 59 = .ok (.getfield 16, 3) := by decide +kernel
theorem dX8_parted_62 : decode cX8_parted 62 = .ok (.iconst 0, 1) := by decide +kernel
theorem dX8_parted_63 : decode cX8_parted 63 = .ok (.iload 4, 2) := by decide +kernel
theorem dX8_parted_65 : decode cX8_parted 65 = .ok (.iload_n 2, 1) := by decide +kernel
theorem dX8_parted_66 : decode cX8_parted 66 = .ok (.aload_n 0, 1) := by decide +kernel
theorem dX8_parted_67 : decode cX8_parted 67 = .ok (.getfield 16, 3) := by decide +kernel
theorem dX8_parted_70 : decode cX8_parted 70 = .ok (.invokevirtual 186, 3) := by decide +kernel
theorem dX8_parted_73 : decode cX8_parted 73 = .ok (.invokevirtual 248, 3) := by decide +kernel
theorem dX8_parted_76 : decode cX8_parted 76 = .ok (.if_icmp .eq 10, 3) := by decide +kernel
theorem dX8_parted_79 : decode cX8_parted 79 = .ok (.iload_n 3, 1) := by decide +kernel
theorem dX8_parted_80 : decode cX8_parted 80 = .ok (.iconst 1, 1) := by decide +kernel
theorem dX8_parted_81 : decode cX8_parted 81 = .ok (.iload 4, 2) := by decide +kernel
theorem dX8_parted_83 : decode cX8_parted 83 = .ok (.ishl, 1) := by decide +kernel
theorem dX8_parted_84 : decode cX8_parted 84 = .ok (.ior, 1) := by decide +kernel
theorem dX8_parted_85 : decode cX8_parted 85 = .ok (.istore_n 3, 1) := by decide +kernel
theorem dX8_parted_86 : decode cX8_parted 86 = .ok (.iinc 4 1, 3) := by decide +kernel
theorem dX8_parted_89 : decode cX8_parted 89 = .ok (.goto (-61), 3) := by decide +kernel
theorem dX8_parted_92 : decode cX8_parted 92 = .ok (.iload_n 3, 1) := by decide +kernel
theorem dX8_parted_93 : decode cX8_parted 93 = .ok (.ireturn, 1) := by decide +kernel
theorem dX8_most_0 : decode cX8_most 0 = .ok (.iconst 0, 1) := by decide +kernel
theorem dX8_most_1 : decode cX8_most 1 = .ok (.istore_n 1, 1) := by decide +kernel
theorem dX8_most_2 : decode cX8_most 2 = .ok (.iconst 0, 1) := by decide +kernel
theorem dX8_most_3 : decode cX8_most 3 = .ok (.istore_n 2, 1) := by decide +kernel
theorem dX8_most_4 : decode cX8_most 4 = .ok (.iload_n 2, 1) := by decide +kernel
theorem dX8_most_5 : decode cX8_most 5 = .ok (.aload_n 0, 1) := by decide +kernel
theorem dX8_most_6 : decode cX8_most 6 = .ok (.getfield 16, 3) := by decide +kernel
theorem dX8_most_9 : decode cX8_most 9 = .ok (.invokevirtual 111, 3) := by decide +kernel
theorem dX8_most_12 : decode cX8_most 12 = .ok (.if_icmp .ge 54, 3) := by decide +kernel
theorem dX8_most_15 : decode cX8_most 15 = .ok (.aload_n 0, 1) := by decide +kernel
theorem dX8_most_16 : decode cX8_most 16 = .ok (.getfield 26, 3) := by decide +kernel
theorem dX8_most_19 : decode cX8_most 19 = .ok (.iload_n 2, 1) := by decide +kernel
theorem dX8_most_20 : decode cX8_most 20 = .ok (.invokevirtual 165, 3) := by decide +kernel
theorem dX8_most_23 : decode cX8_most 23 = .ok (.ifCond .eq 37, 3) := by decide +kernel
theorem dX8_most_26 : decode cX8_most 26 = .ok (.aload_n 0, 1) := by decide +kernel
theorem dX8_most_27 : decode cX8_most 27 = .ok (.iload_n 2, 1) := by decide +kernel
theorem dX8_most_28 : decode cX8_most 28 = .ok (.invokevirtual 237, 3) := by decide +kernel
theorem dX8_most_31 : decode cX8_most 31 = .ok (.istore_n 3, 1) := by decide +kernel
theorem dX8_most_32 : decode cX8_most 32 = .ok (.iload_n 3, 1) := by decide +kernel
theorem dX8_most_33 : decode cX8_most 33 = .ok (.bipush (-4), 2) := by decide +kernel
theorem dX8_most_35 : decode cX8_most 35 = .ok (.if_icmp .eq 25, 3) := by decide +kernel
theorem dX8_most_38 : decode cX8_most 38 = .ok (.aload_n 0, 1) := by decide +kernel
theorem dX8_most_39 : decode cX8_most 39 = .ok (.getfield 26, 3) := by decide +kernel
theorem dX8_most_42 : decode cX8_most 42 = .ok (.iload_n 2, 1) := by decide +kernel
theorem dX8_most_43 : decode cX8_most 43 = .ok (.aload_n 0, 1) := by decide +kernel
theorem dX8_most_44 : decode cX8_most 44 = .ok (.getfield 16, 3) := by decide +kernel
theorem dX8_most_47 : decode cX8_most 47 = .ok (.invokevirtual 252, 3) := by decide +kernel
theorem dX8_most_50 : decode cX8_most 50 = .ok (.iload_n 3, 1) := by decide +kernel
theorem dX8_most_51 : decode cX8_most 51 = .ok (.invokevirtual 255, 3) := by decide +kernel
theorem dX8_most_54 : decode cX8_most 54 = .ok (.ifCond .eq 6, 3) := by decide +kernel
theorem dX8_most_57 : decode cX8_most 57 = .ok (.iinc 1 1, 3) := by decide +kernel
theorem dX8_most_60 : decode cX8_most 60 = .ok (.iinc 2 1, 3) := by decide +kernel
theorem dX8_most_63 : decode cX8_most 63 = .ok (.goto (-59), 3) := by decide +kernel
theorem dX8_most_66 : decode cX8_most 66 = .ok (.iload_n 1, 1) := by decide +kernel
theorem dX8_most_67 : decode cX8_most 67 = .ok (.ireturn, 1) := by decide +kernel
theorem dX8_see_0 : decode cX8_see 0 = .ok (.aload_n 0, 1) := by decide +kernel
theorem dX8_see_1 : decode cX8_see 1 = .ok (.iload_n 1, 1) := by decide +kernel
theorem dX8_see_2 : decode cX8_see 2 = .ok (.invokevirtual 146, 3) := by decide +kernel
theorem dX8_see_5 : decode cX8_see 5 = .ok (.ifCond .eq 23, 3) := by decide +kernel
theorem dX8_see_8 : decode cX8_see 8 = .ok (.aload_n 0, 1) := by decide +kernel
theorem dX8_see_9 : decode cX8_see 9 = .ok (.iload_n 2, 1) := by decide +kernel
theorem dX8_see_10 : decode cX8_see 10 = .ok (.invokevirtual 123, 3) := by decide +kernel
theorem dX8_see_13 : decode cX8_see 13 = .ok (.ifCond .eq 15, 3) := by decide +kernel
theorem dX8_see_16 : decode cX8_see 16 = .ok (.aload_n 0, 1) := by decide +kernel
theorem dX8_see_17 : decode cX8_see 17 = .ok (.getfield 48, 3) := by decide +kernel
theorem dX8_see_20 : decode cX8_see 20 = .ok (.iload_n 1, 1) := by decide +kernel
theorem dX8_see_21 : decode cX8_see 21 = .ok (.iload_n 2, 1) := by decide +kernel
theorem dX8_see_22 : decode cX8_see 22 = .ok (.invokevirtual 259, 3) := by decide +kernel
theorem dX8_see_25 : decode cX8_see 25 = .ok (.goto 4, 3) := by decide +kernel
theorem dX8_see_28 : decode cX8_see 28 = .ok (.iconst (-1), 1) := by decide +kernel
theorem dX8_see_29 : decode cX8_see 29 = .ok (.ireturn, 1) := by decide +kernel
theorem dX8_forget_0 : decode cX8_forget 0 = .ok (.aload_n 0, 1) := by decide +kernel
theorem dX8_forget_1 : decode cX8_forget 1 = .ok (.getfield 48, 3) := by decide +kernel
theorem dX8_forget_4 : decode cX8_forget 4 = .ok (.invokevirtual 121, 3) := by decide +kernel
theorem dX8_forget_7 : decode cX8_forget 7 = .ok (.ireturn, 1) := by decide +kernel
theorem dX8_habits_0 : decode cX8_habits 0 = .ok (.iload_n 1, 1) := by decide +kernel
theorem dX8_habits_1 : decode cX8_habits 1 = .ok (.ifCond .lt 8, 3) := by decide +kernel
theorem dX8_habits_4 : decode cX8_habits 4 = .ok (.iload_n 1, 1) := by decide +kernel
theorem dX8_habits_5 : decode cX8_habits 5 = .ok (.iconst 1, 1) := by decide +kernel
theorem dX8_habits_6 : decode cX8_habits 6 = .ok (.if_icmp .le 5, 3) := by decide +kernel
theorem dX8_habits_9 : decode cX8_habits 9 = .ok (.iconst (-1), 1) := by decide +kernel
theorem dX8_habits_10 : decode cX8_habits 10 = .ok (.ireturn, 1) := by decide +kernel
theorem dX8_habits_11 : decode cX8_habits 11 = .ok (.iconst 0, 1) := by decide +kernel
theorem dX8_habits_12 : decode cX8_habits 12 = .ok (.istore_n 2, 1) := by decide +kernel
theorem dX8_habits_13 : decode cX8_habits 13 = .ok (.bipush (-4), 2) := by decide +kernel
theorem dX8_habits_15 : decode cX8_habits 15 = .ok (.istore_n 3, 1) := by decide +kernel
theorem dX8_habits_16 : decode cX8_habits 16 = .ok (.iconst 2, 1) := by decide +kernel
theorem dX8_habits_17 : decode cX8_habits 17 = .ok (.istore 4, 2) := by decide +kernel
theorem dX8_habits_19 : decode cX8_habits 19 = .ok (.iload 4, 2) := by decide +kernel
theorem dX8_habits_21 : decode cX8_habits 21 = .ok (.iconst 5, 1) := by decide +kernel
theorem dX8_habits_22 : decode cX8_habits 22 = .ok (.if_icmp .gt 64, 3) := by decide +kernel
theorem dX8_habits_25 : decode cX8_habits 25 = .ok (.iconst 1, 1) := by decide +kernel
theorem dX8_habits_26 : decode cX8_habits 26 = .ok (.istore 5, 2) := by decide +kernel
theorem dX8_habits_28 : decode cX8_habits 28 = .ok (.iload 5, 2) := by decide +kernel
theorem dX8_habits_30 : decode cX8_habits 30 = .ok (.iconst 4, 1) := by decide +kernel
theorem dX8_habits_31 : decode cX8_habits 31 = .ok (.if_icmp .gt 49, 3) := by decide +kernel
theorem dX8_habits_34 : decode cX8_habits 34 = .ok (.bipush 10, 2) := by decide +kernel
theorem dX8_habits_36 : decode cX8_habits 36 = .ok (.iload 4, 2) := by decide +kernel
theorem dX8_habits_38 : decode cX8_habits 38 = .ok (.imul, 1) := by decide +kernel
theorem dX8_habits_39 : decode cX8_habits 39 = .ok (.iload 5, 2) := by decide +kernel
theorem dX8_habits_41 : decode cX8_habits 41 = .ok (.iadd, 1) := by decide +kernel
theorem dX8_habits_42 : decode cX8_habits 42 = .ok (.istore 6, 2) := by decide +kernel
theorem dX8_habits_44 : decode cX8_habits 44 = .ok (.aload_n 0, 1) := by decide +kernel
theorem dX8_habits_45 : decode cX8_habits 45 = .ok (.getfield 48, 3) := by decide +kernel
theorem dX8_habits_48 : decode cX8_habits 48 = .ok (.iload 6, 2) := by decide +kernel
theorem dX8_habits_50 : decode cX8_habits 50 = .ok (.aload_n 0, 1) := by decide +kernel
theorem dX8_habits_51 : decode cX8_habits 51 = .ok (.getfield 16, 3) := by decide +kernel
theorem dX8_habits_54 : decode cX8_habits 54 = .ok (.aload_n 0, 1) := by decide +kernel
theorem dX8_habits_55 : decode cX8_habits 55 = .ok (.getfield 26, 3) := by decide +kernel
theorem dX8_habits_58 : decode cX8_habits 58 = .ok (.invokevirtual 261, 3) := by decide +kernel
theorem dX8_habits_61 : decode cX8_habits 61 = .ok (.ifCond .eq 13, 3) := by decide +kernel
theorem dX8_habits_64 : decode cX8_habits 64 = .ok (.iload_n 2, 1) := by decide +kernel
theorem dX8_habits_65 : decode cX8_habits 65 = .ok (.ifCond .ne 6, 3) := by decide +kernel
theorem dX8_habits_68 : decode cX8_habits 68 = .ok (.iload 6, 2) := by decide +kernel
theorem dX8_habits_70 : decode cX8_habits 70 = .ok (.istore_n 3, 1) := by decide +kernel
theorem dX8_habits_71 : decode cX8_habits 71 = .ok (.iinc 2 1, 3) := by decide +kernel
theorem dX8_habits_74 : decode cX8_habits 74 = .ok (.iinc 5 1, 3) := by decide +kernel
theorem dX8_habits_77 : decode cX8_habits 77 = .ok (.goto (-49), 3) := by decide +kernel
theorem dX8_habits_80 : decode cX8_habits 80 = .ok (.iinc 4 1, 3) := by decide +kernel
theorem dX8_habits_83 : decode cX8_habits 83 = .ok (.goto (-64), 3) := by decide +kernel
theorem dX8_habits_86 : decode cX8_habits 86 = .ok (.iload_n 1, 1) := by decide +kernel
theorem dX8_habits_87 : decode cX8_habits 87 = .ok (.ifCond .ne 7, 3) := by decide +kernel
theorem dX8_habits_90 : decode cX8_habits 90 = .ok (.iload_n 2, 1) := by decide +kernel
theorem dX8_habits_91 : decode cX8_habits 91 = .ok (.goto 4, 3) := by decide +kernel
theorem dX8_habits_94 : decode cX8_habits 94 = .ok (.iload_n 3, 1) := by decide +kernel
theorem dX8_habits_95 : decode cX8_habits 95 = .ok (.ireturn, 1) := by decide +kernel
theorem dX8_wants_0 : decode cX8_wants 0 = .ok (.aload_n 0, 1) := by decide +kernel
theorem dX8_wants_1 : decode cX8_wants 1 = .ok (.iload_n 1, 1) := by decide +kernel
theorem dX8_wants_2 : decode cX8_wants 2 = .ok (.invokevirtual 146, 3) := by decide +kernel
theorem dX8_wants_5 : decode cX8_wants 5 = .ok (.ifCond .ne 5, 3) := by decide +kernel
theorem dX8_wants_8 : decode cX8_wants 8 = .ok (.iconst (-1), 1) := by decide +kernel
theorem dX8_wants_9 : decode cX8_wants 9 = .ok (.ireturn, 1) := by decide +kernel
theorem dX8_wants_10 : decode cX8_wants 10 = .ok (.aload_n 0, 1) := by decide +kernel
theorem dX8_wants_11 : decode cX8_wants 11 = .ok (.getfield 26, 3) := by decide +kernel
theorem dX8_wants_14 : decode cX8_wants 14 = .ok (.iload_n 1, 1) := by decide +kernel
theorem dX8_wants_15 : decode cX8_wants 15 = .ok (.invokevirtual 165, 3) := by decide +kernel
theorem dX8_wants_18 : decode cX8_wants 18 = .ok (.ifCond .ne 6, 3) := by decide +kernel
theorem dX8_wants_21 : decode cX8_wants 21 = .ok (.bipush (-2), 2) := by decide +kernel
theorem dX8_wants_23 : decode cX8_wants 23 = .ok (.ireturn, 1) := by decide +kernel
theorem dX8_wants_24 : decode cX8_wants 24 = .ok (.aload_n 0, 1) := by decide +kernel
theorem dX8_wants_25 : decode cX8_wants 25 = .ok (.getfield 62, 3) := by decide +kernel
theorem dX8_wants_28 : decode cX8_wants 28 = .ok (.aload_n 0, 1) := by decide +kernel
theorem dX8_wants_29 : decode cX8_wants 29 = .ok (.getfield 16, 3) := by decide +kernel
theorem dX8_wants_32 : decode cX8_wants 32 = .ok (.aload_n 0, 1) := by decide +kernel
theorem dX8_wants_33 : decode cX8_wants 33 = .ok (.getfield 26, 3) := by decide +kernel
theorem dX8_wants_36 : decode cX8_wants 36 = .ok (.iload_n 1, 1) := by decide +kernel
theorem dX8_wants_37 : decode cX8_wants 37 = .ok (.invokevirtual 197, 3) := by decide +kernel
theorem dX8_wants_40 : decode cX8_wants 40 = .ok (.iconst 0, 1) := by decide +kernel
theorem dX8_wants_41 : decode cX8_wants 41 = .ok (.istore_n 2, 1) := by decide +kernel
theorem dX8_wants_42 : decode cX8_wants 42 = .ok (.iconst 0, 1) := by decide +kernel
theorem dX8_wants_43 : decode cX8_wants 43 = .ok (.istore_n 3, 1) := by decide +kernel
theorem dX8_wants_44 : decode cX8_wants 44 = .ok (.iload_n 3, 1) := by decide +kernel
theorem dX8_wants_45 : decode cX8_wants 45 = .ok (.aload_n 0, 1) := by decide +kernel
theorem dX8_wants_46 : decode cX8_wants 46 = .ok (.getfield 16, 3) := by decide +kernel
theorem dX8_wants_49 : decode cX8_wants 49 = .ok (.invokevirtual 108, 3) := by decide +kernel
theorem dX8_wants_52 : decode cX8_wants 52 = .ok (.if_icmp .ge 28, 3) := by decide +kernel
theorem dX8_wants_55 : decode cX8_wants 55 = .ok (.aload_n 0, 1) := by decide +kernel
theorem dX8_wants_56 : decode cX8_wants 56 = .ok (.getfield 62, 3) := by decide +kernel
theorem dX8_wants_59 : decode cX8_wants 59 = .ok (.iload_n 3, 1) := by decide +kernel
theorem dX8_wants_60 : decode cX8_wants 60 = .ok (.invokevirtual 201, 3) := by decide +kernel
theorem dX8_wants_63 : decode cX8_wants 63 = .ok (.bipush (-4), 2) := by decide +kernel
theorem dX8_wants_65 : decode cX8_wants 65 = .ok (.if_icmp .eq 9, 3) := by decide +kernel
theorem dX8_wants_68 : decode cX8_wants 68 = .ok (.iload_n 2, 1) := by decide +kernel
theorem dX8_wants_69 : decode cX8_wants 69 = .ok (.iconst 1, 1) := by decide +kernel
theorem dX8_wants_70 : decode cX8_wants 70 = .ok (.iload_n 3, 1) := by decide +kernel
theorem dX8_wants_71 : decode cX8_wants 71 = .ok (.ishl, 1) := by decide +kernel
theorem dX8_wants_72 : decode cX8_wants 72 = .ok (.ior, 1) := by decide +kernel
theorem dX8_wants_73 : decode cX8_wants 73 = .ok (.istore_n 2, 1) := by decide +kernel
theorem dX8_wants_74 : decode cX8_wants 74 = .ok (.iinc 3 1, 3) := by decide +kernel
theorem dX8_wants_77 : decode cX8_wants 77 = .ok (.goto (-33), 3) := by decide +kernel
theorem dX8_wants_80 : decode cX8_wants 80 = .ok (.iload_n 2, 1) := by decide +kernel
theorem dX8_wants_81 : decode cX8_wants 81 = .ok (.ireturn, 1) := by decide +kernel
theorem dX8_missed_0 : decode cX8_missed 0 = .ok (.aload_n 0, 1) := by decide +kernel
theorem dX8_missed_1 : decode cX8_missed 1 = .ok (.iload_n 1, 1) := by decide +kernel
theorem dX8_missed_2 : decode cX8_missed 2 = .ok (.invokevirtual 146, 3) := by decide +kernel
theorem dX8_missed_5 : decode cX8_missed 5 = .ok (.ifCond .eq 22, 3) := by decide +kernel
theorem dX8_missed_8 : decode cX8_missed 8 = .ok (.iload_n 2, 1) := by decide +kernel
theorem dX8_missed_9 : decode cX8_missed 9 = .ok (.ifCond .lt 18, 3) := by decide +kernel
theorem dX8_missed_12 : decode cX8_missed 12 = .ok (.iload_n 2, 1) := by decide +kernel
theorem dX8_missed_13 : decode cX8_missed 13 = .ok (.bipush 10, 2) := by decide +kernel
theorem dX8_missed_15 : decode cX8_missed 15 = .ok (.if_icmp .gt 12, 3) := by decide +kernel
theorem dX8_missed_18 : decode cX8_missed 18 = .ok (.iload_n 3, 1) := by decide +kernel
theorem dX8_missed_19 : decode cX8_missed 19 = .ok (.ifCond .lt 8, 3) := by decide +kernel
theorem dX8_missed_22 : decode cX8_missed 22 = .ok (.iload_n 3, 1) := by decide +kernel
theorem dX8_missed_23 : decode cX8_missed 23 = .ok (.iconst 1, 1) := by decide +kernel
theorem dX8_missed_24 : decode cX8_missed 24 = .ok (.if_icmp .le 5, 3) := by decide +kernel
theorem dX8_missed_27 : decode cX8_missed 27 = .ok (.iconst (-1), 1) := by decide +kernel
theorem dX8_missed_28 : decode cX8_missed 28 = .ok (.ireturn, 1) := by decide +kernel
theorem dX8_missed_29 : decode cX8_missed 29 = .ok (.aload_n 0, 1) := by decide +kernel
theorem dX8_missed_30 : decode cX8_missed 30 = .ok (.getfield 26, 3) := by decide +kernel
theorem dX8_missed_33 : decode cX8_missed 33 = .ok (.iload_n 1, 1) := by decide +kernel
theorem dX8_missed_34 : decode cX8_missed 34 = .ok (.invokevirtual 165, 3) := by decide +kernel
theorem dX8_missed_37 : decode cX8_missed 37 = .ok (.ifCond .ne 6, 3) := by decide +kernel
theorem dX8_missed_40 : decode cX8_missed 40 = .ok (.bipush (-2), 2) := by decide +kernel
theorem dX8_missed_42 : decode cX8_missed 42 = .ok (.ireturn, 1) := by decide +kernel
theorem dX8_missed_43 : decode cX8_missed 43 = .ok (.aload_n 0, 1) := by decide +kernel
theorem dX8_missed_44 : decode cX8_missed 44 = .ok (.getfield 26, 3) := by decide +kernel
theorem dX8_missed_47 : decode cX8_missed 47 = .ok (.iload_n 1, 1) := by decide +kernel
theorem dX8_missed_48 : decode cX8_missed 48 = .ok (.iconst 3, 1) := by decide +kernel
theorem dX8_missed_49 : decode cX8_missed 49 = .ok (.invokevirtual 149, 3) := by decide +kernel
theorem dX8_missed_52 : decode cX8_missed 52 = .ok (.istore 4, 2) := by decide +kernel
theorem dX8_missed_54 : decode cX8_missed 54 = .ok (.iconst 0, 1) := by decide +kernel
theorem dX8_missed_55 : decode cX8_missed 55 = .ok (.istore 5, 2) := by decide +kernel
theorem dX8_missed_57 : decode cX8_missed 57 = .ok (.iconst 1, 1) := by decide +kernel
theorem dX8_missed_58 : decode cX8_missed 58 = .ok (.istore 6, 2) := by decide +kernel
theorem dX8_missed_60 : decode cX8_missed 60 = .ok (.iconst 0, 1) := by decide +kernel
theorem dX8_missed_61 : decode cX8_missed 61 = .ok (.istore 7, 2) := by decide +kernel
theorem dX8_missed_63 : decode cX8_missed 63 = .ok (.iload 7, 2) := by decide +kernel
theorem dX8_missed_65 : decode cX8_missed 65 = .ok (.iload 4, 2) := by decide +kernel
theorem dX8_missed_67 : decode cX8_missed 67 = .ok (.if_icmp .ge 16, 3) := by decide +kernel
theorem dX8_missed_70 : decode cX8_missed 70 = .ok (.iload 6, 2) := by decide +kernel
theorem dX8_missed_72 : decode cX8_missed 72 = .ok (.bipush 10, 2) := by decide +kernel
theorem dX8_missed_74 : decode cX8_missed 74 = .ok (.imul, 1) := by decide +kernel
theorem dX8_missed_75 : decode cX8_missed 75 = .ok (.istore 6, 2) := by decide +kernel
theorem dX8_missed_77 : decode cX8_missed 77 = .ok (.iinc 7 1, 3) := by decide +kernel
theorem dX8_missed_80 : decode cX8_missed 80 = .ok (.goto (-17), 3) := by decide +kernel
theorem dX8_missed_83 : decode cX8_missed 83 = .ok (.iconst 0, 1) := by decide +kernel
theorem dX8_missed_84 : decode cX8_missed 84 = .ok (.istore 7, 2) := by decide +kernel
theorem dX8_missed_86 : decode cX8_missed 86 = .ok (.iload 7, 2) := by decide +kernel
theorem dX8_missed_88 : decode cX8_missed 88 = .ok (.iconst 1, 1) := by decide +kernel
theorem dX8_missed_89 : decode cX8_missed 89 = .ok (.iload 4, 2) := by decide +kernel
theorem dX8_missed_91 : decode cX8_missed 91 = .ok (.ishl, 1) := by decide +kernel
theorem dX8_missed_92 : decode cX8_missed 92 = .ok (.if_icmp .ge 55, 3) := by decide +kernel
theorem dX8_missed_95 : decode cX8_missed 95 = .ok (.aload_n 0, 1) := by decide +kernel
theorem dX8_missed_96 : decode cX8_missed 96 = .ok (.getfield 16, 3) := by decide +kernel
theorem dX8_missed_99 : decode cX8_missed 99 = .ok (.aload_n 0, 1) := by decide +kernel
theorem dX8_missed_100 : decode cX8_missed 100 = .ok (.getfield 26, 3) := by decide +kernel
theorem dX8_missed_103 : decode cX8_missed 103 = .ok (.iload_n 1, 1) := by decide +kernel
theorem dX8_missed_104 : decode cX8_missed 104 = .ok (.iload 7, 2) := by decide +kernel
theorem dX8_missed_106 : decode cX8_missed 106 = .ok (.aload_n 0, 1) := by decide +kernel
theorem dX8_missed_107 : decode cX8_missed 107 = .ok (.getfield 16, 3) := by decide +kernel
theorem dX8_missed_110 : decode cX8_missed 110 = .ok (.invokevirtual 186, 3) := by decide +kernel
theorem dX8_missed_113 : decode cX8_missed 113 = .ok (.invokevirtual 193, 3) := by decide +kernel
theorem dX8_missed_116 : decode cX8_missed 116 = .ok (.aload_n 0, 1) := by decide +kernel
theorem dX8_missed_117 : decode cX8_missed 117 = .ok (.getfield 26, 3) := by decide +kernel
theorem dX8_missed_120 : decode cX8_missed 120 = .ok (.iload_n 1, 1) := by decide +kernel
theorem dX8_missed_121 : decode cX8_missed 121 = .ok (.iconst 1, 1) := by decide +kernel
theorem dX8_missed_122 : decode cX8_missed 122 = .ok (.invokevirtual 149, 3) := by decide +kernel
theorem dX8_missed_125 : decode cX8_missed 125 = .ok (.if_icmp .ne 16, 3) := by decide +kernel
theorem dX8_missed_128 : decode cX8_missed 128 = .ok (.iload 5, 2) := by decide +kernel
theorem dX8_missed_130 : decode cX8_missed 130 = .ok (.iload 7, 2) := by decide +kernel
theorem dX8_missed_132 : decode cX8_missed 132 = .ok (.iload 4, 2) := by decide +kernel
theorem dX8_missed_134 : decode cX8_missed 134 = .ok (.iload_n 2, 1) := by decide +kernel
theorem dX8_missed_135 : decode cX8_missed 135 = .ok (.invokestatic 265, 3) := by decide +kernel
theorem dX8_missed_138 : decode cX8_missed 138 = .ok (.iadd, 1) := by decide +kernel
theorem dX8_missed_139 : decode cX8_missed 139 = .ok (.istore 5, 2) := by decide +kernel
theorem dX8_missed_141 : decode cX8_missed 141 = .ok (.iinc 7 1, 3) := by decide +kernel
theorem dX8_missed_144 : decode cX8_missed 144 = .ok (.goto (-58), 3) := by decide +kernel
theorem dX8_missed_147 : decode cX8_missed 147 = .ok (.iload 6, 2) := by decide +kernel
theorem dX8_missed_149 : decode cX8_missed 149 = .ok (.iload 5, 2) := by decide +kernel
theorem dX8_missed_151 : decode cX8_missed 151 = .ok (.invokestatic 269, 3) := by decide +kernel
theorem dX8_missed_154 : decode cX8_missed 154 = .ok (.istore 7, 2) := by decide +kernel
theorem dX8_missed_156 : decode cX8_missed 156 = .ok (.iload 7, 2) := by decide +kernel
theorem dX8_missed_158 : decode cX8_missed 158 = .ok (.iconst 1, 1) := by decide +kernel
theorem dX8_missed_159 : decode cX8_missed 159 = .ok (.if_icmp .ge 6, 3) := by decide +kernel
theorem dX8_missed_162 : decode cX8_missed 162 = .ok (.bipush (-4), 2) := by decide +kernel
theorem dX8_missed_164 : decode cX8_missed 164 = .ok (.ireturn, 1) := by decide +kernel
theorem dX8_missed_165 : decode cX8_missed 165 = .ok (.iload_n 3, 1) := by decide +kernel
theorem dX8_missed_166 : decode cX8_missed 166 = .ok (.ifCond .ne 11, 3) := by decide +kernel
theorem dX8_missed_169 : decode cX8_missed 169 = .ok (.iload 5, 2) := by decide +kernel
theorem dX8_missed_171 : decode cX8_missed 171 = .ok (.iload 7, 2) := by decide +kernel
theorem dX8_missed_173 : decode cX8_missed 173 = .ok (.idiv, 1) := by decide +kernel
theorem dX8_missed_174 : decode cX8_missed 174 = .ok (.goto 8, 3) := by decide +kernel
theorem dX8_missed_177 : decode cX8_missed 177 = .ok (.iload 6, 2) := by decide +kernel
theorem dX8_missed_179 : decode cX8_missed 179 = .ok (.iload 7, 2) := by decide +kernel
theorem dX8_missed_181 : decode cX8_missed 181 = .ok (.idiv, 1) := by decide +kernel
theorem dX8_missed_182 : decode cX8_missed 182 = .ok (.ireturn, 1) := by decide +kernel
theorem dX8_season_0 : decode cX8_season 0 = .ok (.iload_n 1, 1) := by decide +kernel
theorem dX8_season_1 : decode cX8_season 1 = .ok (.ifCond .lt 30, 3) := by decide +kernel
theorem dX8_season_4 : decode cX8_season 4 = .ok (.iload_n 1, 1) := by decide +kernel
theorem dX8_season_5 : decode cX8_season 5 = .ok (.sipush 9999, 3) := by decide +kernel
theorem dX8_season_8 : decode cX8_season 8 = .ok (.if_icmp .gt 23, 3) := by decide +kernel
theorem dX8_season_11 : decode cX8_season 11 = .ok (.iload_n 2, 1) := by decide +kernel
theorem dX8_season_12 : decode cX8_season 12 = .ok (.iconst 1, 1) := by decide +kernel
theorem dX8_season_13 : decode cX8_season 13 = .ok (.if_icmp .lt 18, 3) := by decide +kernel
theorem dX8_season_16 : decode cX8_season 16 = .ok (.iload_n 2, 1) := by decide +kernel
theorem dX8_season_17 : decode cX8_season 17 = .ok (.bipush 60, 2) := by decide +kernel
theorem dX8_season_19 : decode cX8_season 19 = .ok (.if_icmp .gt 12, 3) := by decide +kernel
theorem dX8_season_22 : decode cX8_season 22 = .ok (.iload_n 3, 1) := by decide +kernel
theorem dX8_season_23 : decode cX8_season 23 = .ok (.ifCond .lt 8, 3) := by decide +kernel
theorem dX8_season_26 : decode cX8_season 26 = .ok (.iload_n 3, 1) := by decide +kernel
theorem dX8_season_27 : decode cX8_season 27 = .ok (.iconst 1, 1) := by decide +kernel
theorem dX8_season_28 : decode cX8_season 28 = .ok (.if_icmp .le 5, 3) := by decide +kernel
theorem dX8_season_31 : decode cX8_season 31 = .ok (.iconst (-1), 1) := by decide +kernel
theorem dX8_season_32 : decode cX8_season 32 = .ok (.ireturn, 1) := by decide +kernel
theorem dX8_season_33 : decode cX8_season 33 = .ok (.aload_n 0, 1) := by decide +kernel
theorem dX8_season_34 : decode cX8_season 34 = .ok (.getfield 30, 3) := by decide +kernel
theorem dX8_season_37 : decode cX8_season 37 = .ok (.aload_n 0, 1) := by decide +kernel
theorem dX8_season_38 : decode cX8_season 38 = .ok (.getfield 26, 3) := by decide +kernel
theorem dX8_season_41 : decode cX8_season 41 = .ok (.invokevirtual 114, 3) := by decide +kernel
theorem dX8_season_44 : decode cX8_season 44 = .ok (.iconst 0, 1) := by decide +kernel
theorem dX8_season_45 : decode cX8_season 45 = .ok (.istore 4, 2) := by decide +kernel
theorem dX8_season_47 : decode cX8_season 47 = .ok (.iload 4, 2) := by decide +kernel
theorem dX8_season_49 : decode cX8_season 49 = .ok (.iload_n 2, 1) := by decide +kernel
theorem dX8_season_50 : decode cX8_season 50 = .ok (.if_icmp .ge 19, 3) := by decide +kernel
theorem dX8_season_53 : decode cX8_season 53 = .ok (.aload_n 0, 1) := by decide +kernel
theorem dX8_season_54 : decode cX8_season 54 = .ok (.iload_n 1, 1) := by decide +kernel
theorem dX8_season_55 : decode cX8_season 55 = .ok (.iload 4, 2) := by decide +kernel
theorem dX8_season_57 : decode cX8_season 57 = .ok (.invokestatic 272, 3) := by decide +kernel
theorem dX8_season_60 : decode cX8_season 60 = .ok (.invokevirtual 275, 3) := by decide +kernel
theorem dX8_season_63 : decode cX8_season 63 = .ok (.iinc 4 1, 3) := by decide +kernel
theorem dX8_season_66 : decode cX8_season 66 = .ok (.goto (-19), 3) := by decide +kernel
theorem dX8_season_69 : decode cX8_season 69 = .ok (.iload_n 3, 1) := by decide +kernel
theorem dX8_season_70 : decode cX8_season 70 = .ok (.ifCond .ne 13, 3) := by decide +kernel
theorem dX8_season_73 : decode cX8_season 73 = .ok (.aload_n 0, 1) := by decide +kernel
theorem dX8_season_74 : decode cX8_season 74 = .ok (.aload_n 0, 1) := by decide +kernel
theorem dX8_season_75 : decode cX8_season 75 = .ok (.getfield 30, 3) := by decide +kernel
theorem dX8_season_78 : decode cX8_season 78 = .ok (.iconst 1, 1) := by decide +kernel
theorem dX8_season_79 : decode cX8_season 79 = .ok (.invokevirtual 278, 3) := by decide +kernel
theorem dX8_season_82 : decode cX8_season 82 = .ok (.ireturn, 1) := by decide +kernel
theorem dX8_season_83 : decode cX8_season 83 = .ok (.aload_n 0, 1) := by decide +kernel
theorem dX8_season_84 : decode cX8_season 84 = .ok (.aload_n 0, 1) := by decide +kernel
theorem dX8_season_85 : decode cX8_season 85 = .ok (.getfield 26, 3) := by decide +kernel
theorem dX8_season_88 : decode cX8_season 88 = .ok (.iconst 2, 1) := by decide +kernel
theorem dX8_season_89 : decode cX8_season 89 = .ok (.invokevirtual 280, 3) := by decide +kernel
theorem dX8_season_92 : decode cX8_season 92 = .ok (.aload_n 0, 1) := by decide +kernel
theorem dX8_season_93 : decode cX8_season 93 = .ok (.aload_n 0, 1) := by decide +kernel
theorem dX8_season_94 : decode cX8_season 94 = .ok (.getfield 30, 3) := by decide +kernel
theorem dX8_season_97 : decode cX8_season 97 = .ok (.iconst 2, 1) := by decide +kernel
theorem dX8_season_98 : decode cX8_season 98 = .ok (.invokevirtual 280, 3) := by decide +kernel
theorem dX8_season_101 : decode cX8_season 101 = .ok (.isub, 1) := by decide +kernel
theorem dX8_season_102 : decode cX8_season 102 = .ok (.ireturn, 1) := by decide +kernel
theorem dX8_keep_0 : decode cX8_keep 0 = .ok (.aload_n 0, 1) := by decide +kernel
theorem dX8_keep_1 : decode cX8_keep 1 = .ok (.getfield 42, 3) := by decide +kernel
theorem dX8_keep_4 : decode cX8_keep 4 = .ok (.invokevirtual 183, 3) := by decide +kernel
theorem dX8_keep_7 : decode cX8_keep 7 = .ok (.iconst 2, 1) := by decide +kernel
theorem dX8_keep_8 : decode cX8_keep 8 = .ok (.if_icmp .lt 6, 3) := by decide +kernel
theorem dX8_keep_11 : decode cX8_keep 11 = .ok (.bipush (-3), 2) := by decide +kernel
theorem dX8_keep_13 : decode cX8_keep 13 = .ok (.ireturn, 1) := by decide +kernel
theorem dX8_keep_14 : decode cX8_keep 14 = .ok (.aload_n 0, 1) := by decide +kernel
theorem dX8_keep_15 : decode cX8_keep 15 = .ok (.getfield 42, 3) := by decide +kernel
theorem dX8_keep_18 : decode cX8_keep 18 = .ok (.aload_n 0, 1) := by decide +kernel
theorem dX8_keep_19 : decode cX8_keep 19 = .ok (.getfield 26, 3) := by decide +kernel
theorem dX8_keep_22 : decode cX8_keep 22 = .ok (.invokevirtual 158, 3) := by decide +kernel
theorem dX8_keep_25 : decode cX8_keep 25 = .ok (.aload_n 0, 1) := by decide +kernel
theorem dX8_keep_26 : decode cX8_keep 26 = .ok (.getfield 42, 3) := by decide +kernel
theorem dX8_keep_29 : decode cX8_keep 29 = .ok (.invokevirtual 183, 3) := by decide +kernel
theorem dX8_keep_32 : decode cX8_keep 32 = .ok (.ireturn, 1) := by decide +kernel
theorem dX8_back_0 : decode cX8_back 0 = .ok (.aload_n 0, 1) := by decide +kernel
theorem dX8_back_1 : decode cX8_back 1 = .ok (.getfield 42, 3) := by decide +kernel
theorem dX8_back_4 : decode cX8_back 4 = .ok (.aload_n 0, 1) := by decide +kernel
theorem dX8_back_5 : decode cX8_back 5 = .ok (.getfield 26, 3) := by decide +kernel
theorem dX8_back_8 : decode cX8_back 8 = .ok (.invokevirtual 179, 3) := by decide +kernel
theorem dX8_back_11 : decode cX8_back 11 = .ok (.ifCond .ne 6, 3) := by decide +kernel
theorem dX8_back_14 : decode cX8_back 14 = .ok (.bipush (-2), 2) := by decide +kernel
theorem dX8_back_16 : decode cX8_back 16 = .ok (.ireturn, 1) := by decide +kernel
theorem dX8_back_17 : decode cX8_back 17 = .ok (.aload_n 0, 1) := by decide +kernel
theorem dX8_back_18 : decode cX8_back 18 = .ok (.getfield 38, 3) := by decide +kernel
theorem dX8_back_21 : decode cX8_back 21 = .ok (.invokevirtual 118, 3) := by decide +kernel
theorem dX8_back_24 : decode cX8_back 24 = .ok (.aload_n 0, 1) := by decide +kernel
theorem dX8_back_25 : decode cX8_back 25 = .ok (.getfield 42, 3) := by decide +kernel
theorem dX8_back_28 : decode cX8_back 28 = .ok (.invokevirtual 183, 3) := by decide +kernel
theorem dX8_back_31 : decode cX8_back 31 = .ok (.ireturn, 1) := by decide +kernel
theorem dX8_count_0 : decode cX8_count 0 = .ok (.iload_n 1, 1) := by decide +kernel
theorem dX8_count_1 : decode cX8_count 1 = .ok (.tableswitch 178 0 12 #[67, 75, 83, 91, 99, 109, 119, 129, 139, 149, 157, 165, 173], 67) := by decide +kernel
theorem dX8_count_68 : decode cX8_count 68 = .ok (.aload_n 0, 1) := by decide +kernel
theorem dX8_count_69 : decode cX8_count 69 = .ok (.getfield 16, 3) := by decide +kernel
theorem dX8_count_72 : decode cX8_count 72 = .ok (.invokevirtual 108, 3) := by decide +kernel
theorem dX8_count_75 : decode cX8_count 75 = .ok (.ireturn, 1) := by decide +kernel
theorem dX8_count_76 : decode cX8_count 76 = .ok (.aload_n 0, 1) := by decide +kernel
theorem dX8_count_77 : decode cX8_count 77 = .ok (.getfield 16, 3) := by decide +kernel
theorem dX8_count_80 : decode cX8_count 80 = .ok (.invokevirtual 245, 3) := by decide +kernel
theorem dX8_count_83 : decode cX8_count 83 = .ok (.ireturn, 1) := by decide +kernel
theorem dX8_count_84 : decode cX8_count 84 = .ok (.aload_n 0, 1) := by decide +kernel
theorem dX8_count_85 : decode cX8_count 85 = .ok (.getfield 16, 3) := by decide +kernel
theorem dX8_count_88 : decode cX8_count 88 = .ok (.invokevirtual 111, 3) := by decide +kernel
theorem dX8_count_91 : decode cX8_count 91 = .ok (.ireturn, 1) := by decide +kernel
theorem dX8_count_92 : decode cX8_count 92 = .ok (.aload_n 0, 1) := by decide +kernel
theorem dX8_count_93 : decode cX8_count 93 = .ok (.getfield 16, 3) := by decide +kernel
theorem dX8_count_96 : decode cX8_count 96 = .ok (.invokevirtual 252, 3) := by decide +kernel
theorem dX8_count_99 : decode cX8_count 99 = .ok (.ireturn, 1) := by decide +kernel
theorem dX8_count_100 : decode cX8_count 100 = .ok (.aload_n 0, 1) := by decide +kernel
theorem dX8_count_101 : decode cX8_count 101 = .ok (.aload_n 0, 1) := by decide +kernel
theorem dX8_count_102 : decode cX8_count 102 = .ok (.getfield 26, 3) := by decide +kernel
theorem dX8_count_105 : decode cX8_count 105 = .ok (.iconst 0, 1) := by decide +kernel
theorem dX8_count_106 : decode cX8_count 106 = .ok (.invokevirtual 278, 3) := by decide +kernel
theorem dX8_count_109 : decode cX8_count 109 = .ok (.ireturn, 1) := by decide +kernel
theorem dX8_count_110 : decode cX8_count 110 = .ok (.aload_n 0, 1) := by decide +kernel
theorem dX8_count_111 : decode cX8_count 111 = .ok (.aload_n 0, 1) := by decide +kernel
theorem dX8_count_112 : decode cX8_count 112 = .ok (.getfield 26, 3) := by decide +kernel
theorem dX8_count_115 : decode cX8_count 115 = .ok (.iconst 1, 1) := by decide +kernel
theorem dX8_count_116 : decode cX8_count 116 = .ok (.invokevirtual 278, 3) := by decide +kernel
theorem dX8_count_119 : decode cX8_count 119 = .ok (.ireturn, 1) := by decide +kernel
theorem dX8_count_120 : decode cX8_count 120 = .ok (.aload_n 0, 1) := by decide +kernel
theorem dX8_count_121 : decode cX8_count 121 = .ok (.aload_n 0, 1) := by decide +kernel
theorem dX8_count_122 : decode cX8_count 122 = .ok (.getfield 26, 3) := by decide +kernel
theorem dX8_count_125 : decode cX8_count 125 = .ok (.iconst 2, 1) := by decide +kernel
theorem dX8_count_126 : decode cX8_count 126 = .ok (.invokevirtual 278, 3) := by decide +kernel
theorem dX8_count_129 : decode cX8_count 129 = .ok (.ireturn, 1) := by decide +kernel
theorem dX8_count_130 : decode cX8_count 130 = .ok (.aload_n 0, 1) := by decide +kernel
theorem dX8_count_131 : decode cX8_count 131 = .ok (.aload_n 0, 1) := by decide +kernel
theorem dX8_count_132 : decode cX8_count 132 = .ok (.getfield 26, 3) := by decide +kernel
theorem dX8_count_135 : decode cX8_count 135 = .ok (.iconst 3, 1) := by decide +kernel
theorem dX8_count_136 : decode cX8_count 136 = .ok (.invokevirtual 278, 3) := by decide +kernel
theorem dX8_count_139 : decode cX8_count 139 = .ok (.ireturn, 1) := by decide +kernel
theorem dX8_count_140 : decode cX8_count 140 = .ok (.aload_n 0, 1) := by decide +kernel
theorem dX8_count_141 : decode cX8_count 141 = .ok (.aload_n 0, 1) := by decide +kernel
theorem dX8_count_142 : decode cX8_count 142 = .ok (.getfield 26, 3) := by decide +kernel
theorem dX8_count_145 : decode cX8_count 145 = .ok (.iconst 3, 1) := by decide +kernel
theorem dX8_count_146 : decode cX8_count 146 = .ok (.invokevirtual 280, 3) := by decide +kernel
theorem dX8_count_149 : decode cX8_count 149 = .ok (.ireturn, 1) := by decide +kernel
theorem dX8_count_150 : decode cX8_count 150 = .ok (.aload_n 0, 1) := by decide +kernel
theorem dX8_count_151 : decode cX8_count 151 = .ok (.getfield 48, 3) := by decide +kernel
theorem dX8_count_154 : decode cX8_count 154 = .ok (.invokevirtual 283, 3) := by decide +kernel
theorem dX8_count_157 : decode cX8_count 157 = .ok (.ireturn, 1) := by decide +kernel
theorem dX8_count_158 : decode cX8_count 158 = .ok (.aload_n 0, 1) := by decide +kernel
theorem dX8_count_159 : decode cX8_count 159 = .ok (.getfield 38, 3) := by decide +kernel
theorem dX8_count_162 : decode cX8_count 162 = .ok (.invokevirtual 183, 3) := by decide +kernel
theorem dX8_count_165 : decode cX8_count 165 = .ok (.ireturn, 1) := by decide +kernel
theorem dX8_count_166 : decode cX8_count 166 = .ok (.aload_n 0, 1) := by decide +kernel
theorem dX8_count_167 : decode cX8_count 167 = .ok (.getfield 42, 3) := by decide +kernel
theorem dX8_count_170 : decode cX8_count 170 = .ok (.invokevirtual 183, 3) := by decide +kernel
theorem dX8_count_173 : decode cX8_count 173 = .ok (.ireturn, 1) := by decide +kernel
theorem dX8_count_174 : decode cX8_count 174 = .ok (.aload_n 0, 1) := by decide +kernel
theorem dX8_count_175 : decode cX8_count 175 = .ok (.getfield 98, 3) := by decide +kernel
theorem dX8_count_178 : decode cX8_count 178 = .ok (.ireturn, 1) := by decide +kernel
theorem dX8_count_179 : decode cX8_count 179 = .ok (.iconst (-1), 1) := by decide +kernel
theorem dX8_count_180 : decode cX8_count 180 = .ok (.ireturn, 1) := by decide +kernel
theorem dX8_isWord_0 : decode cX8_isWord 0 = .ok (.iload_n 1, 1) := by decide +kernel
theorem dX8_isWord_1 : decode cX8_isWord 1 = .ok (.ifCond .lt 18, 3) := by decide +kernel
theorem dX8_isWord_4 : decode cX8_isWord 4 = .ok (.iload_n 1, 1) := by decide +kernel
theorem dX8_isWord_5 : decode cX8_isWord 5 = .ok (.aload_n 0, 1) := by decide +kernel
theorem dX8_isWord_6 : decode cX8_isWord 6 = .ok (.getfield 16, 3) := by decide +kernel
theorem dX8_isWord_9 : decode cX8_isWord 9 = .ok (.invokevirtual 108, 3) := by decide +kernel
theorem dX8_isWord_12 : decode cX8_isWord 12 = .ok (.if_icmp .ge 7, 3) := by decide +kernel
theorem dX8_isWord_15 : decode cX8_isWord 15 = .ok (.iconst 1, 1) := by decide +kernel
theorem dX8_isWord_16 : decode cX8_isWord 16 = .ok (.goto 4, 3) := by decide +kernel
theorem dX8_isWord_19 : decode cX8_isWord 19 = .ok (.iconst 0, 1) := by decide +kernel
theorem dX8_isWord_20 : decode cX8_isWord 20 = .ok (.ireturn, 1) := by decide +kernel
theorem dX8_isSign_0 : decode cX8_isSign 0 = .ok (.iload_n 1, 1) := by decide +kernel
theorem dX8_isSign_1 : decode cX8_isSign 1 = .ok (.ifCond .lt 18, 3) := by decide +kernel
theorem dX8_isSign_4 : decode cX8_isSign 4 = .ok (.iload_n 1, 1) := by decide +kernel
theorem dX8_isSign_5 : decode cX8_isSign 5 = .ok (.aload_n 0, 1) := by decide +kernel
theorem dX8_isSign_6 : decode cX8_isSign 6 = .ok (.getfield 16, 3) := by decide +kernel
theorem dX8_isSign_9 : decode cX8_isSign 9 = .ok (.invokevirtual 245, 3) := by decide +kernel
theorem dX8_isSign_12 : decode cX8_isSign 12 = .ok (.if_icmp .ge 7, 3) := by decide +kernel
theorem dX8_isSign_15 : decode cX8_isSign 15 = .ok (.iconst 1, 1) := by decide +kernel
theorem dX8_isSign_16 : decode cX8_isSign 16 = .ok (.goto 4, 3) := by decide +kernel
theorem dX8_isSign_19 : decode cX8_isSign 19 = .ok (.iconst 0, 1) := by decide +kernel
theorem dX8_isSign_20 : decode cX8_isSign 20 = .ok (.ireturn, 1) := by decide +kernel
theorem dX8_isActor_0 : decode cX8_isActor 0 = .ok (.iload_n 1, 1) := by decide +kernel
theorem dX8_isActor_1 : decode cX8_isActor 1 = .ok (.ifCond .lt 18, 3) := by decide +kernel
theorem dX8_isActor_4 : decode cX8_isActor 4 = .ok (.iload_n 1, 1) := by decide +kernel
theorem dX8_isActor_5 : decode cX8_isActor 5 = .ok (.aload_n 0, 1) := by decide +kernel
theorem dX8_isActor_6 : decode cX8_isActor 6 = .ok (.getfield 16, 3) := by decide +kernel
theorem dX8_isActor_9 : decode cX8_isActor 9 = .ok (.invokevirtual 111, 3) := by decide +kernel
theorem dX8_isActor_12 : decode cX8_isActor 12 = .ok (.if_icmp .ge 7, 3) := by decide +kernel
theorem dX8_isActor_15 : decode cX8_isActor 15 = .ok (.iconst 1, 1) := by decide +kernel
theorem dX8_isActor_16 : decode cX8_isActor 16 = .ok (.goto 4, 3) := by decide +kernel
theorem dX8_isActor_19 : decode cX8_isActor 19 = .ok (.iconst 0, 1) := by decide +kernel
theorem dX8_isActor_20 : decode cX8_isActor 20 = .ok (.ireturn, 1) := by decide +kernel
theorem dX8_showSign_0 : decode cX8_showSign 0 = .ok (.aload_n 0, 1) := by decide +kernel
theorem dX8_showSign_1 : decode cX8_showSign 1 = .ok (.getfield 16, 3) := by decide +kernel
theorem dX8_showSign_4 : decode cX8_showSign 4 = .ok (.iload_n 3, 1) := by decide +kernel
theorem dX8_showSign_5 : decode cX8_showSign 5 = .ok (.invokevirtual 143, 3) := by decide +kernel
theorem dX8_showSign_8 : decode cX8_showSign 8 = .ok (.ifCond .eq 12, 3) := by decide +kernel
theorem dX8_showSign_11 : decode cX8_showSign 11 = .ok (.aload_n 1, 1) := by decide +kernel
theorem dX8_showSign_12 : decode cX8_showSign 12 = .ok (.iload_n 2, 1) := by decide +kernel
theorem dX8_showSign_13 : decode cX8_showSign 13 = .ok (.iconst 5, 1) := by decide +kernel
theorem dX8_showSign_14 : decode cX8_showSign 14 = .ok (.iconst 3, 1) := by decide +kernel
theorem dX8_showSign_15 : decode cX8_showSign 15 = .ok (.invokevirtual 175, 3) := by decide +kernel
theorem dX8_showSign_18 : decode cX8_showSign 18 = .ok (.iconst 0, 1) := by decide +kernel
theorem dX8_showSign_19 : decode cX8_showSign 19 = .ok (.ireturn, 1) := by decide +kernel
theorem dX8_showSign_20 : decode cX8_showSign 20 = .ok (.aload_n 1, 1) := by decide +kernel
theorem dX8_showSign_21 : decode cX8_showSign 21 = .ok (.iload_n 2, 1) := by decide +kernel
theorem dX8_showSign_22 : decode cX8_showSign 22 = .ok (.iload_n 3, 1) := by decide +kernel
theorem dX8_showSign_23 : decode cX8_showSign 23 = .ok (.invokevirtual 284, 3) := by decide +kernel
theorem dX8_showSign_26 : decode cX8_showSign 26 = .ok (.iconst 1, 1) := by decide +kernel
theorem dX8_showSign_27 : decode cX8_showSign 27 = .ok (.ireturn, 1) := by decide +kernel
theorem dX8_guessWord_0 : decode cX8_guessWord 0 = .ok (.aload_n 0, 1) := by decide +kernel
theorem dX8_guessWord_1 : decode cX8_guessWord 1 = .ok (.getfield 16, 3) := by decide +kernel
theorem dX8_guessWord_4 : decode cX8_guessWord 4 = .ok (.aload_n 1, 1) := by decide +kernel
theorem dX8_guessWord_5 : decode cX8_guessWord 5 = .ok (.iload_n 2, 1) := by decide +kernel
theorem dX8_guessWord_6 : decode cX8_guessWord 6 = .ok (.bipush 31, 2) := by decide +kernel
theorem dX8_guessWord_8 : decode cX8_guessWord 8 = .ok (.aload_n 0, 1) := by decide +kernel
theorem dX8_guessWord_9 : decode cX8_guessWord 9 = .ok (.getfield 16, 3) := by decide +kernel
theorem dX8_guessWord_12 : decode cX8_guessWord 12 = .ok (.invokevirtual 186, 3) := by decide +kernel
theorem dX8_guessWord_15 : decode cX8_guessWord 15 = .ok (.invokevirtual 193, 3) := by decide +kernel
theorem dX8_guessWord_18 : decode cX8_guessWord 18 = .ok (.istore_n 3, 1) := by decide +kernel
theorem dX8_guessWord_19 : decode cX8_guessWord 19 = .ok (.iload_n 3, 1) := by decide +kernel
theorem dX8_guessWord_20 : decode cX8_guessWord 20 = .ok (.bipush (-4), 2) := by decide +kernel
theorem dX8_guessWord_22 : decode cX8_guessWord 22 = .ok (.if_icmp .ne 13, 3) := by decide +kernel
theorem dX8_guessWord_25 : decode cX8_guessWord 25 = .ok (.aload_n 1, 1) := by decide +kernel
theorem dX8_guessWord_26 : decode cX8_guessWord 26 = .ok (.iload_n 2, 1) := by decide +kernel
theorem dX8_guessWord_27 : decode cX8_guessWord 27 = .ok (.iconst 5, 1) := by decide +kernel
theorem dX8_guessWord_28 : decode cX8_guessWord 28 = .ok (.iconst 2, 1) := by decide +kernel
theorem dX8_guessWord_29 : decode cX8_guessWord 29 = .ok (.invokevirtual 175, 3) := by decide +kernel
theorem dX8_guessWord_32 : decode cX8_guessWord 32 = .ok (.goto 60, 3) := by decide +kernel
theorem dX8_guessWord_35 : decode cX8_guessWord 35 = .ok (.iload_n 3, 1) := by decide +kernel
theorem dX8_guessWord_36 : decode cX8_guessWord 36 = .ok (.aload_n 1, 1) := by decide +kernel
theorem dX8_guessWord_37 : decode cX8_guessWord 37 = .ok (.iload_n 2, 1) := by decide +kernel
theorem dX8_guessWord_38 : decode cX8_guessWord 38 = .ok (.iconst 1, 1) := by decide +kernel
theorem dX8_guessWord_39 : decode cX8_guessWord 39 = .ok (.invokevirtual 149, 3) := by decide +kernel
theorem dX8_guessWord_42 : decode cX8_guessWord 42 = .ok (.if_icmp .eq 12, 3) := by decide +kernel
theorem dX8_guessWord_45 : decode cX8_guessWord 45 = .ok (.aload_n 1, 1) := by decide +kernel
theorem dX8_guessWord_46 : decode cX8_guessWord 46 = .ok (.iload_n 2, 1) := by decide +kernel
theorem dX8_guessWord_47 : decode cX8_guessWord 47 = .ok (.iload_n 3, 1) := by decide +kernel
theorem dX8_guessWord_48 : decode cX8_guessWord 48 = .ok (.invokevirtual 287, 3) := by decide +kernel
theorem dX8_guessWord_51 : decode cX8_guessWord 51 = .ok (.goto 41, 3) := by decide +kernel
theorem dX8_guessWord_54 : decode cX8_guessWord 54 = .ok (.aload_n 1, 1) := by decide +kernel
theorem dX8_guessWord_55 : decode cX8_guessWord 55 = .ok (.iload_n 2, 1) := by decide +kernel
theorem dX8_guessWord_56 : decode cX8_guessWord 56 = .ok (.aload_n 0, 1) := by decide +kernel
theorem dX8_guessWord_57 : decode cX8_guessWord 57 = .ok (.getfield 16, 3) := by decide +kernel
theorem dX8_guessWord_60 : decode cX8_guessWord 60 = .ok (.invokevirtual 252, 3) := by decide +kernel
theorem dX8_guessWord_63 : decode cX8_guessWord 63 = .ok (.iconst 0, 1) := by decide +kernel
theorem dX8_guessWord_64 : decode cX8_guessWord 64 = .ok (.invokevirtual 255, 3) := by decide +kernel
theorem dX8_guessWord_67 : decode cX8_guessWord 67 = .ok (.ifCond .eq 18, 3) := by decide +kernel
theorem dX8_guessWord_70 : decode cX8_guessWord 70 = .ok (.aload_n 1, 1) := by decide +kernel
theorem dX8_guessWord_71 : decode cX8_guessWord 71 = .ok (.iload_n 2, 1) := by decide +kernel
theorem dX8_guessWord_72 : decode cX8_guessWord 72 = .ok (.aload_n 0, 1) := by decide +kernel
theorem dX8_guessWord_73 : decode cX8_guessWord 73 = .ok (.getfield 16, 3) := by decide +kernel
theorem dX8_guessWord_76 : decode cX8_guessWord 76 = .ok (.invokevirtual 252, 3) := by decide +kernel
theorem dX8_guessWord_79 : decode cX8_guessWord 79 = .ok (.invokevirtual 290, 3) := by decide +kernel
theorem dX8_guessWord_82 : decode cX8_guessWord 82 = .ok (.goto 10, 3) := by decide +kernel
theorem dX8_guessWord_85 : decode cX8_guessWord 85 = .ok (.aload_n 1, 1) := by decide +kernel
theorem dX8_guessWord_86 : decode cX8_guessWord 86 = .ok (.iload_n 2, 1) := by decide +kernel
theorem dX8_guessWord_87 : decode cX8_guessWord 87 = .ok (.iconst 5, 1) := by decide +kernel
theorem dX8_guessWord_88 : decode cX8_guessWord 88 = .ok (.iconst 2, 1) := by decide +kernel
theorem dX8_guessWord_89 : decode cX8_guessWord 89 = .ok (.invokevirtual 175, 3) := by decide +kernel
theorem dX8_guessWord_92 : decode cX8_guessWord 92 = .ok (.iload_n 3, 1) := by decide +kernel
theorem dX8_guessWord_93 : decode cX8_guessWord 93 = .ok (.ireturn, 1) := by decide +kernel
theorem dX8_fewestForWanted_0 : decode cX8_fewestForWanted 0 = .ok (.aload_n 0, 1) := by decide +kernel
theorem dX8_fewestForWanted_1 : decode cX8_fewestForWanted 1 = .ok (.getfield 62, 3) := by decide +kernel
theorem dX8_fewestForWanted_4 : decode cX8_fewestForWanted 4 = .ok (.aload_n 0, 1) := by decide +kernel
theorem dX8_fewestForWanted_5 : decode cX8_fewestForWanted 5 = .ok (.getfield 16, 3) := by decide +kernel
theorem dX8_fewestForWanted_8 : decode cX8_fewestForWanted 8 = .ok (.aload_n 0, 1) := by decide +kernel
theorem dX8_fewestForWanted_9 : decode cX8_fewestForWanted 9 = .ok (.getfield 26, 3) := by decide +kernel
theorem dX8_fewestForWanted_12 : decode cX8_fewestForWanted 12 = .ok (.iload_n 1, 1) := by decide +kernel
theorem dX8_fewestForWanted_13 : decode cX8_fewestForWanted 13 = .ok (.invokevirtual 197, 3) := by decide +kernel
theorem dX8_fewestForWanted_16 : decode cX8_fewestForWanted 16 = .ok (.aload_n 0, 1) := by decide +kernel
theorem dX8_fewestForWanted_17 : decode cX8_fewestForWanted 17 = .ok (.getfield 62, 3) := by decide +kernel
theorem dX8_fewestForWanted_20 : decode cX8_fewestForWanted 20 = .ok (.aload_n 0, 1) := by decide +kernel
theorem dX8_fewestForWanted_21 : decode cX8_fewestForWanted 21 = .ok (.getfield 26, 3) := by decide +kernel
theorem dX8_fewestForWanted_24 : decode cX8_fewestForWanted 24 = .ok (.iload_n 1, 1) := by decide +kernel
theorem dX8_fewestForWanted_25 : decode cX8_fewestForWanted 25 = .ok (.iconst 1, 1) := by decide +kernel
theorem dX8_fewestForWanted_26 : decode cX8_fewestForWanted 26 = .ok (.invokevirtual 149, 3) := by decide +kernel
theorem dX8_fewestForWanted_29 : decode cX8_fewestForWanted 29 = .ok (.invokevirtual 201, 3) := by decide +kernel
theorem dX8_fewestForWanted_32 : decode cX8_fewestForWanted 32 = .ok (.ireturn, 1) := by decide +kernel
theorem dX8_mostTelling_0 : decode cX8_mostTelling 0 = .ok (.bipush (-4), 2) := by decide +kernel
theorem dX8_mostTelling_2 : decode cX8_mostTelling 2 = .ok (.istore_n 2, 1) := by decide +kernel
theorem dX8_mostTelling_3 : decode cX8_mostTelling 3 = .ok (.lconst 0, 1) := by decide +kernel
theorem dX8_mostTelling_4 : decode cX8_mostTelling 4 = .ok (.lstore_n 3, 1) := by decide +kernel
theorem dX8_mostTelling_5 : decode cX8_mostTelling 5 = .ok (.lconst 1, 1) := by decide +kernel
theorem dX8_mostTelling_6 : decode cX8_mostTelling 6 = .ok (.lstore 5, 2) := by decide +kernel
theorem dX8_mostTelling_8 : decode cX8_mostTelling 8 = .ok (.iconst 0, 1) := by decide +kernel
theorem dX8_mostTelling_9 : decode cX8_mostTelling 9 = .ok (.istore 7, 2) := by decide +kernel
theorem dX8_mostTelling_11 : decode cX8_mostTelling 11 = .ok (.iload 7, 2) := by decide +kernel
theorem dX8_mostTelling_13 : decode cX8_mostTelling 13 = .ok (.aload_n 0, 1) := by decide +kernel
theorem dX8_mostTelling_14 : decode cX8_mostTelling 14 = .ok (.getfield 16, 3) := by decide +kernel
theorem dX8_mostTelling_17 : decode cX8_mostTelling 17 = .ok (.invokevirtual 245, 3) := by decide +kernel
theorem dX8_mostTelling_20 : decode cX8_mostTelling 20 = .ok (.if_icmp .ge 123, 3) := by decide +kernel
theorem dX8_mostTelling_23 : decode cX8_mostTelling 23 = .ok (.aload_n 0, 1) := by decide +kernel
theorem dX8_mostTelling_24 : decode cX8_mostTelling 24 = .ok (.getfield 16, 3) := by decide +kernel
theorem dX8_mostTelling_27 : decode cX8_mostTelling 27 = .ok (.iload 7, 2) := by decide +kernel
theorem dX8_mostTelling_29 : decode cX8_mostTelling 29 = .ok (.invokevirtual 143, 3) := by decide +kernel
theorem dX8_mostTelling_32 : decode cX8_mostTelling 32 = .ok (.ifCond .ne 105, 3) := by decide +kernel
theorem dX8_mostTelling_35 : decode cX8_mostTelling 35 = .ok (.aload_n 0, 1) := by decide +kernel
theorem dX8_mostTelling_36 : decode cX8_mostTelling 36 = .ok (.iload_n 1, 1) := by decide +kernel
theorem dX8_mostTelling_37 : decode cX8_mostTelling 37 = .ok (.aload_n 0, 1) := by decide +kernel
theorem dX8_mostTelling_38 : decode cX8_mostTelling 38 = .ok (.getfield 26, 3) := by decide +kernel
theorem dX8_mostTelling_41 : decode cX8_mostTelling 41 = .ok (.iload_n 1, 1) := by decide +kernel
theorem dX8_mostTelling_42 : decode cX8_mostTelling 42 = .ok (.iconst 1, 1) := by decide +kernel
theorem dX8_mostTelling_43 : decode cX8_mostTelling 43 = .ok (.invokevirtual 149, 3) := by decide +kernel
theorem dX8_mostTelling_46 : decode cX8_mostTelling 46 = .ok (.iload 7, 2) := by decide +kernel
theorem dX8_mostTelling_48 : decode cX8_mostTelling 48 = .ok (.invokevirtual 293, 3) := by decide +kernel
theorem dX8_mostTelling_51 : decode cX8_mostTelling 51 = .ok (.i2l, 1) := by decide +kernel
theorem dX8_mostTelling_52 : decode cX8_mostTelling 52 = .ok (.lstore 8, 2) := by decide +kernel
theorem dX8_mostTelling_54 : decode cX8_mostTelling 54 = .ok (.lconst 0, 1) := by decide +kernel
theorem dX8_mostTelling_55 : decode cX8_mostTelling 55 = .ok (.lstore 10, 2) := by decide +kernel
theorem dX8_mostTelling_57 : decode cX8_mostTelling 57 = .ok (.iconst 0, 1) := by decide +kernel
theorem dX8_mostTelling_58 : decode cX8_mostTelling 58 = .ok (.istore 12, 2) := by decide +kernel
theorem dX8_mostTelling_60 : decode cX8_mostTelling 60 = .ok (.iload 12, 2) := by decide +kernel
theorem dX8_mostTelling_62 : decode cX8_mostTelling 62 = .ok (.aload_n 0, 1) := by decide +kernel
theorem dX8_mostTelling_63 : decode cX8_mostTelling 63 = .ok (.getfield 16, 3) := by decide +kernel
theorem dX8_mostTelling_66 : decode cX8_mostTelling 66 = .ok (.invokevirtual 108, 3) := by decide +kernel
theorem dX8_mostTelling_69 : decode cX8_mostTelling 69 = .ok (.if_icmp .ge 24, 3) := by decide +kernel
theorem dX8_mostTelling_72 : decode cX8_mostTelling 72 = .ok (.lload 10, 2) := by decide +kernel
theorem dX8_mostTelling_74 : decode cX8_mostTelling 74 = .ok (.aload_n 0, 1) := by decide +kernel
theorem dX8_mostTelling_75 : decode cX8_mostTelling 75 = .ok (.iload_n 1, 1) := by decide +kernel
theorem dX8_mostTelling_76 : decode cX8_mostTelling 76 = .ok (.iload 12, 2) := by decide +kernel
theorem dX8_mostTelling_78 : decode cX8_mostTelling 78 = .ok (.iload 7, 2) := by decide +kernel
theorem dX8_mostTelling_80 : decode cX8_mostTelling 80 = .ok (.invokevirtual 293, 3) := by decide +kernel
theorem dX8_mostTelling_83 : decode cX8_mostTelling 83 = .ok (.i2l, 1) := by decide +kernel
theorem dX8_mostTelling_84 : decode cX8_mostTelling 84 = .ok (.ladd, 1) := by decide +kernel
theorem dX8_mostTelling_85 : decode cX8_mostTelling 85 = .ok (.lstore 10, 2) := by decide +kernel
theorem dX8_mostTelling_87 : decode cX8_mostTelling 87 = .ok (.iinc 12 1, 3) := by decide +kernel
theorem dX8_mostTelling_90 : decode cX8_mostTelling 90 = .ok (.goto (-30), 3) := by decide +kernel
theorem dX8_mostTelling_93 : decode cX8_mostTelling 93 = .ok (.lload 10, 2) := by decide +kernel
theorem dX8_mostTelling_95 : decode cX8_mostTelling 95 = .ok (.lconst 0, 1) := by decide +kernel
theorem dX8_mostTelling_96 : decode cX8_mostTelling 96 = .ok (.lcmp, 1) := by decide +kernel
theorem dX8_mostTelling_97 : decode cX8_mostTelling 97 = .ok (.ifCond .le 8, 3) := by decide +kernel
theorem dX8_mostTelling_100 : decode cX8_mostTelling 100 = .ok (.lload 10, 2) := by decide +kernel
theorem dX8_mostTelling_102 : decode cX8_mostTelling 102 = .ok (.goto 4, 3) := by decide +kernel
theorem dX8_mostTelling_105 : decode cX8_mostTelling 105 = .ok (.lconst 1, 1) := by decide +kernel
theorem dX8_mostTelling_106 : decode cX8_mostTelling 106 = .ok (.lstore 10, 2) := by decide +kernel
theorem dX8_mostTelling_108 : decode cX8_mostTelling 108 = .ok (.iload_n 2, 1) := by decide +kernel
theorem dX8_mostTelling_109 : decode cX8_mostTelling 109 = .ok (.bipush (-4), 2) := by decide +kernel
theorem dX8_mostTelling_111 : decode cX8_mostTelling 111 = .ok (.if_icmp .eq 16, 3) := by decide +kernel
theorem dX8_mostTelling_114 : decode cX8_mostTelling 114 = .ok (.lload 8, 2) := by decide +kernel
theorem dX8_mostTelling_116 : decode cX8_mostTelling 116 = .ok (.lload 5, 2) := by decide +kernel
theorem dX8_mostTelling_118 : decode cX8_mostTelling 118 = .ok (.lmul, 1) := by decide +kernel
theorem dX8_mostTelling_119 : decode cX8_mostTelling 119 = .ok (.lload_n 3, 1) := by decide +kernel
theorem dX8_mostTelling_120 : decode cX8_mostTelling 120 = .ok (.lload 10, 2) := by decide +kernel
theorem dX8_mostTelling_122 : decode cX8_mostTelling 122 = .ok (.lmul, 1) := by decide +kernel
theorem dX8_mostTelling_123 : decode cX8_mostTelling 123 = .ok (.lcmp, 1) := by decide +kernel
theorem dX8_mostTelling_124 : decode cX8_mostTelling 124 = .ok (.ifCond .le 13, 3) := by decide +kernel
theorem dX8_mostTelling_127 : decode cX8_mostTelling 127 = .ok (.iload 7, 2) := by decide +kernel
theorem dX8_mostTelling_129 : decode cX8_mostTelling 129 = .ok (.istore_n 2, 1) := by decide +kernel
theorem dX8_mostTelling_130 : decode cX8_mostTelling 130 = .ok (.lload 8, 2) := by decide +kernel
theorem dX8_mostTelling_132 : decode cX8_mostTelling 132 = .ok (.lstore_n 3, 1) := by decide +kernel
theorem dX8_mostTelling_133 : decode cX8_mostTelling 133 = .ok (.lload 10, 2) := by decide +kernel
theorem dX8_mostTelling_135 : decode cX8_mostTelling 135 = .ok (.lstore 5, 2) := by decide +kernel
theorem dX8_mostTelling_137 : decode cX8_mostTelling 137 = .ok (.iinc 7 1, 3) := by decide +kernel
theorem dX8_mostTelling_140 : decode cX8_mostTelling 140 = .ok (.goto (-129), 3) := by decide +kernel
theorem dX8_mostTelling_143 : decode cX8_mostTelling 143 = .ok (.iload_n 2, 1) := by decide +kernel
theorem dX8_mostTelling_144 : decode cX8_mostTelling 144 = .ok (.ireturn, 1) := by decide +kernel
theorem dX8_weightBesides_0 : decode cX8_weightBesides 0 = .ok (.aload_n 0, 1) := by decide +kernel
theorem dX8_weightBesides_1 : decode cX8_weightBesides 1 = .ok (.getfield 16, 3) := by decide +kernel
theorem dX8_weightBesides_4 : decode cX8_weightBesides 4 = .ok (.aload_n 0, 1) := by decide +kernel
theorem dX8_weightBesides_5 : decode cX8_weightBesides 5 = .ok (.getfield 26, 3) := by decide +kernel
theorem dX8_weightBesides_8 : decode cX8_weightBesides 8 = .ok (.iload_n 1, 1) := by decide +kernel
theorem dX8_weightBesides_9 : decode cX8_weightBesides 9 = .ok (.iload_n 2, 1) := by decide +kernel
theorem dX8_weightBesides_10 : decode cX8_weightBesides 10 = .ok (.bipush 31, 2) := by decide +kernel
theorem dX8_weightBesides_12 : decode cX8_weightBesides 12 = .ok (.aload_n 0, 1) := by decide +kernel
theorem dX8_weightBesides_13 : decode cX8_weightBesides 13 = .ok (.getfield 16, 3) := by decide +kernel
theorem dX8_weightBesides_16 : decode cX8_weightBesides 16 = .ok (.invokevirtual 186, 3) := by decide +kernel
theorem dX8_weightBesides_19 : decode cX8_weightBesides 19 = .ok (.invokevirtual 189, 3) := by decide +kernel
theorem dX8_weightBesides_22 : decode cX8_weightBesides 22 = .ok (.aload_n 0, 1) := by decide +kernel
theorem dX8_weightBesides_23 : decode cX8_weightBesides 23 = .ok (.getfield 16, 3) := by decide +kernel
theorem dX8_weightBesides_26 : decode cX8_weightBesides 26 = .ok (.aload_n 0, 1) := by decide +kernel
theorem dX8_weightBesides_27 : decode cX8_weightBesides 27 = .ok (.getfield 26, 3) := by decide +kernel
theorem dX8_weightBesides_30 : decode cX8_weightBesides 30 = .ok (.iload_n 1, 1) := by decide +kernel
theorem dX8_weightBesides_31 : decode cX8_weightBesides 31 = .ok (.iconst 0, 1) := by decide +kernel
theorem dX8_weightBesides_32 : decode cX8_weightBesides 32 = .ok (.invokevirtual 149, 3) := by decide +kernel
theorem dX8_weightBesides_35 : decode cX8_weightBesides 35 = .ok (.iload_n 3, 1) := by decide +kernel
theorem dX8_weightBesides_36 : decode cX8_weightBesides 36 = .ok (.iload_n 2, 1) := by decide +kernel
theorem dX8_weightBesides_37 : decode cX8_weightBesides 37 = .ok (.aload_n 0, 1) := by decide +kernel
theorem dX8_weightBesides_38 : decode cX8_weightBesides 38 = .ok (.getfield 16, 3) := by decide +kernel
theorem dX8_weightBesides_41 : decode cX8_weightBesides 41 = .ok (.invokevirtual 186, 3) := by decide +kernel
theorem dX8_weightBesides_44 : decode cX8_weightBesides 44 = .ok (.invokevirtual 248, 3) := by decide +kernel
theorem dX8_weightBesides_47 : decode cX8_weightBesides 47 = .ok (.imul, 1) := by decide +kernel
theorem dX8_weightBesides_48 : decode cX8_weightBesides 48 = .ok (.ireturn, 1) := by decide +kernel
theorem dX8_chanceOf_0 : decode cX8_chanceOf 0 = .ok (.iconst 1, 1) := by decide +kernel
theorem dX8_chanceOf_1 : decode cX8_chanceOf 1 = .ok (.istore_n 3, 1) := by decide +kernel
theorem dX8_chanceOf_2 : decode cX8_chanceOf 2 = .ok (.iconst 0, 1) := by decide +kernel
theorem dX8_chanceOf_3 : decode cX8_chanceOf 3 = .ok (.istore 4, 2) := by decide +kernel
theorem dX8_chanceOf_5 : decode cX8_chanceOf 5 = .ok (.iload 4, 2) := by decide +kernel
theorem dX8_chanceOf_7 : decode cX8_chanceOf 7 = .ok (.iload_n 1, 1) := by decide +kernel
theorem dX8_chanceOf_8 : decode cX8_chanceOf 8 = .ok (.if_icmp .ge 30, 3) := by decide +kernel
theorem dX8_chanceOf_11 : decode cX8_chanceOf 11 = .ok (.iload_n 3, 1) := by decide +kernel
theorem dX8_chanceOf_12 : decode cX8_chanceOf 12 = .ok (.iload_n 0, 1) := by decide +kernel
theorem dX8_chanceOf_13 : decode cX8_chanceOf 13 = .ok (.iload 4, 2) := by decide +kernel
theorem dX8_chanceOf_15 : decode cX8_chanceOf 15 = .ok (.ishr, 1) := by decide +kernel
theorem dX8_chanceOf_16 : decode cX8_chanceOf 16 = .ok (.iconst 1, 1) := by decide +kernel
theorem dX8_chanceOf_17 : decode cX8_chanceOf 17 = .ok (.iand, 1) := by decide +kernel
theorem dX8_chanceOf_18 : decode cX8_chanceOf 18 = .ok (.iconst 1, 1) := by decide +kernel
theorem dX8_chanceOf_19 : decode cX8_chanceOf 19 = .ok (.if_icmp .ne 10, 3) := by decide +kernel
theorem dX8_chanceOf_22 : decode cX8_chanceOf 22 = .ok (.bipush 10, 2) := by decide +kernel
theorem dX8_chanceOf_24 : decode cX8_chanceOf 24 = .ok (.iload_n 2, 1) := by decide +kernel
theorem dX8_chanceOf_25 : decode cX8_chanceOf 25 = .ok (.isub, 1) := by decide +kernel
theorem dX8_chanceOf_26 : decode cX8_chanceOf 26 = .ok (.goto 4, 3) := by decide +kernel
theorem dX8_chanceOf_29 : decode cX8_chanceOf 29 = .ok (.iload_n 2, 1) := by decide +kernel
theorem dX8_chanceOf_30 : decode cX8_chanceOf 30 = .ok (.imul, 1) := by decide +kernel
theorem dX8_chanceOf_31 : decode cX8_chanceOf 31 = .ok (.istore_n 3, 1) := by decide +kernel
theorem dX8_chanceOf_32 : decode cX8_chanceOf 32 = .ok (.iinc 4 1, 3) := by decide +kernel
theorem dX8_chanceOf_35 : decode cX8_chanceOf 35 = .ok (.goto (-30), 3) := by decide +kernel
theorem dX8_chanceOf_38 : decode cX8_chanceOf 38 = .ok (.iload_n 3, 1) := by decide +kernel
theorem dX8_chanceOf_39 : decode cX8_chanceOf 39 = .ok (.ireturn, 1) := by decide +kernel
theorem dX8_commonDivisor_0 : decode cX8_commonDivisor 0 = .ok (.iload_n 0, 1) := by decide +kernel
theorem dX8_commonDivisor_1 : decode cX8_commonDivisor 1 = .ok (.istore_n 2, 1) := by decide +kernel
theorem dX8_commonDivisor_2 : decode cX8_commonDivisor 2 = .ok (.iload_n 1, 1) := by decide +kernel
theorem dX8_commonDivisor_3 : decode cX8_commonDivisor 3 = .ok (.istore_n 3, 1) := by decide +kernel
theorem dX8_commonDivisor_4 : decode cX8_commonDivisor 4 = .ok (.iconst 0, 1) := by decide +kernel
theorem dX8_commonDivisor_5 : decode cX8_commonDivisor 5 = .ok (.istore 4, 2) := by decide +kernel
theorem dX8_commonDivisor_7 : decode cX8_commonDivisor 7 = .ok (.iload 4, 2) := by decide +kernel
theorem dX8_commonDivisor_9 : decode cX8_commonDivisor 9 = .ok (.bipush 64, 2) := by decide +kernel
theorem dX8_commonDivisor_11 : decode cX8_commonDivisor 11 = .ok (.if_icmp .ge 23, 3) := by decide +kernel
theorem dX8_commonDivisor_14 : decode cX8_commonDivisor 14 = .ok (.iload_n 3, 1) := by decide +kernel
theorem dX8_commonDivisor_15 : decode cX8_commonDivisor 15 = .ok (.ifCond .eq 19, 3) := by decide +kernel
theorem dX8_commonDivisor_18 : decode cX8_commonDivisor 18 = .ok (.iload_n 2, 1) := by decide +kernel
theorem dX8_commonDivisor_19 : decode cX8_commonDivisor 19 = .ok (.iload_n 3, 1) := by decide +kernel
theorem dX8_commonDivisor_20 : decode cX8_commonDivisor 20 = .ok (.irem, 1) := by decide +kernel
theorem dX8_commonDivisor_21 : decode cX8_commonDivisor 21 = .ok (.istore 5, 2) := by decide +kernel
theorem dX8_commonDivisor_23 : decode cX8_commonDivisor 23 = .ok (.iload_n 3, 1) := by decide +kernel
theorem dX8_commonDivisor_24 : decode cX8_commonDivisor 24 = .ok (.istore_n 2, 1) := by decide +kernel
theorem dX8_commonDivisor_25 : decode cX8_commonDivisor 25 = .ok (.iload 5, 2) := by decide +kernel
theorem dX8_commonDivisor_27 : decode cX8_commonDivisor 27 = .ok (.istore_n 3, 1) := by decide +kernel
theorem dX8_commonDivisor_28 : decode cX8_commonDivisor 28 = .ok (.iinc 4 1, 3) := by decide +kernel
theorem dX8_commonDivisor_31 : decode cX8_commonDivisor 31 = .ok (.goto (-24), 3) := by decide +kernel
theorem dX8_commonDivisor_34 : decode cX8_commonDivisor 34 = .ok (.iload_n 2, 1) := by decide +kernel
theorem dX8_commonDivisor_35 : decode cX8_commonDivisor 35 = .ok (.ireturn, 1) := by decide +kernel
theorem dX8_draw_0 : decode cX8_draw 0 = .ok (.ldc2_w 296, 3) := by decide +kernel
theorem dX8_draw_3 : decode cX8_draw 3 = .ok (.iload_n 0, 1) := by decide +kernel
theorem dX8_draw_4 : decode cX8_draw 4 = .ok (.i2l, 1) := by decide +kernel
theorem dX8_draw_5 : decode cX8_draw 5 = .ok (.lmul, 1) := by decide +kernel
theorem dX8_draw_6 : decode cX8_draw 6 = .ok (.ldc2_w 298, 3) := by decide +kernel
theorem dX8_draw_9 : decode cX8_draw 9 = .ok (.iload_n 1, 1) := by decide +kernel
theorem dX8_draw_10 : decode cX8_draw 10 = .ok (.i2l, 1) := by decide +kernel
theorem dX8_draw_11 : decode cX8_draw 11 = .ok (.lmul, 1) := by decide +kernel
theorem dX8_draw_12 : decode cX8_draw 12 = .ok (.ladd, 1) := by decide +kernel
theorem dX8_draw_13 : decode cX8_draw 13 = .ok (.lconst 1, 1) := by decide +kernel
theorem dX8_draw_14 : decode cX8_draw 14 = .ok (.ladd, 1) := by decide +kernel
theorem dX8_draw_15 : decode cX8_draw 15 = .ok (.lstore_n 2, 1) := by decide +kernel
theorem dX8_draw_16 : decode cX8_draw 16 = .ok (.lload_n 2, 1) := by decide +kernel
theorem dX8_draw_17 : decode cX8_draw 17 = .ok (.lload_n 2, 1) := by decide +kernel
theorem dX8_draw_18 : decode cX8_draw 18 = .ok (.lmul, 1) := by decide +kernel
theorem dX8_draw_19 : decode cX8_draw 19 = .ok (.ldc2_w 300, 3) := by decide +kernel
theorem dX8_draw_22 : decode cX8_draw 22 = .ok (.lrem, 1) := by decide +kernel
theorem dX8_draw_23 : decode cX8_draw 23 = .ok (.ldc2_w 302, 3) := by decide +kernel
theorem dX8_draw_26 : decode cX8_draw 26 = .ok (.ldiv, 1) := by decide +kernel
theorem dX8_draw_27 : decode cX8_draw 27 = .ok (.l2i, 1) := by decide +kernel
theorem dX8_draw_28 : decode cX8_draw 28 = .ok (.ireturn, 1) := by decide +kernel
theorem dX8_playDraw_0 : decode cX8_playDraw 0 = .ok (.aload_n 0, 1) := by decide +kernel
theorem dX8_playDraw_1 : decode cX8_playDraw 1 = .ok (.getfield 16, 3) := by decide +kernel
theorem dX8_playDraw_4 : decode cX8_playDraw 4 = .ok (.invokevirtual 111, 3) := by decide +kernel
theorem dX8_playDraw_7 : decode cX8_playDraw 7 = .ok (.istore_n 2, 1) := by decide +kernel
theorem dX8_playDraw_8 : decode cX8_playDraw 8 = .ok (.aload_n 0, 1) := by decide +kernel
theorem dX8_playDraw_9 : decode cX8_playDraw 9 = .ok (.getfield 16, 3) := by decide +kernel
theorem dX8_playDraw_12 : decode cX8_playDraw 12 = .ok (.invokevirtual 245, 3) := by decide +kernel
theorem dX8_playDraw_15 : decode cX8_playDraw 15 = .ok (.istore_n 3, 1) := by decide +kernel
theorem dX8_playDraw_16 : decode cX8_playDraw 16 = .ok (.iload_n 2, 1) := by decide +kernel
theorem dX8_playDraw_17 : decode cX8_playDraw 17 = .ok (.iconst 1, 1) := by decide +kernel
theorem dX8_playDraw_18 : decode cX8_playDraw 18 = .ok (.if_icmp .lt 8, 3) := by decide +kernel
theorem dX8_playDraw_21 : decode cX8_playDraw 21 = .ok (.iload_n 3, 1) := by decide +kernel
theorem dX8_playDraw_22 : decode cX8_playDraw 22 = .ok (.iconst 1, 1) := by decide +kernel
theorem dX8_playDraw_23 : decode cX8_playDraw 23 = .ok (.if_icmp .ge 4, 3) := by decide +kernel
theorem dX8_playDraw_26 : decode cX8_playDraw 26 = .ok (.return_, 1) := by decide +kernel
theorem dX8_playDraw_27 : decode cX8_playDraw 27 = .ok (.iload_n 1, 1) := by decide +kernel
theorem dX8_playDraw_28 : decode cX8_playDraw 28 = .ok (.iload_n 2, 1) := by decide +kernel
theorem dX8_playDraw_29 : decode cX8_playDraw 29 = .ok (.irem, 1) := by decide +kernel
theorem dX8_playDraw_30 : decode cX8_playDraw 30 = .ok (.istore 4, 2) := by decide +kernel
theorem dX8_playDraw_32 : decode cX8_playDraw 32 = .ok (.iload_n 1, 1) := by decide +kernel
theorem dX8_playDraw_33 : decode cX8_playDraw 33 = .ok (.sipush 256, 3) := by decide +kernel
theorem dX8_playDraw_36 : decode cX8_playDraw 36 = .ok (.idiv, 1) := by decide +kernel
theorem dX8_playDraw_37 : decode cX8_playDraw 37 = .ok (.iconst 3, 1) := by decide +kernel
theorem dX8_playDraw_38 : decode cX8_playDraw 38 = .ok (.irem, 1) := by decide +kernel
theorem dX8_playDraw_39 : decode cX8_playDraw 39 = .ok (.ifCond .ne 29, 3) := by decide +kernel
theorem dX8_playDraw_42 : decode cX8_playDraw 42 = .ok (.aload_n 0, 1) := by decide +kernel
theorem dX8_playDraw_43 : decode cX8_playDraw 43 = .ok (.getfield 30, 3) := by decide +kernel
theorem dX8_playDraw_46 : decode cX8_playDraw 46 = .ok (.iload 4, 2) := by decide +kernel
theorem dX8_playDraw_48 : decode cX8_playDraw 48 = .ok (.invokevirtual 165, 3) := by decide +kernel
theorem dX8_playDraw_51 : decode cX8_playDraw 51 = .ok (.ifCond .eq 46, 3) := by decide +kernel
theorem dX8_playDraw_54 : decode cX8_playDraw 54 = .ok (.aload_n 0, 1) := by decide +kernel
theorem dX8_playDraw_55 : decode cX8_playDraw 55 = .ok (.aload_n 0, 1) := by decide +kernel
theorem dX8_playDraw_56 : decode cX8_playDraw 56 = .ok (.getfield 30, 3) := by decide +kernel
theorem dX8_playDraw_59 : decode cX8_playDraw 59 = .ok (.iload 4, 2) := by decide +kernel
theorem dX8_playDraw_61 : decode cX8_playDraw 61 = .ok (.invokevirtual 168, 3) := by decide +kernel
theorem dX8_playDraw_64 : decode cX8_playDraw 64 = .ok (.pop, 1) := by decide +kernel
theorem dX8_playDraw_65 : decode cX8_playDraw 65 = .ok (.goto 32, 3) := by decide +kernel
theorem dX8_playDraw_68 : decode cX8_playDraw 68 = .ok (.aload_n 0, 1) := by decide +kernel
theorem dX8_playDraw_69 : decode cX8_playDraw 69 = .ok (.getfield 30, 3) := by decide +kernel
theorem dX8_playDraw_72 : decode cX8_playDraw 72 = .ok (.iload 4, 2) := by decide +kernel
theorem dX8_playDraw_74 : decode cX8_playDraw 74 = .ok (.invokevirtual 155, 3) := by decide +kernel
theorem dX8_playDraw_77 : decode cX8_playDraw 77 = .ok (.ifCond .eq 20, 3) := by decide +kernel
theorem dX8_playDraw_80 : decode cX8_playDraw 80 = .ok (.aload_n 0, 1) := by decide +kernel
theorem dX8_playDraw_81 : decode cX8_playDraw 81 = .ok (.aload_n 0, 1) := by decide +kernel
theorem dX8_playDraw_82 : decode cX8_playDraw 82 = .ok (.getfield 30, 3) := by decide +kernel
theorem dX8_playDraw_85 : decode cX8_playDraw 85 = .ok (.iload 4, 2) := by decide +kernel
theorem dX8_playDraw_87 : decode cX8_playDraw 87 = .ok (.iload_n 1, 1) := by decide +kernel
theorem dX8_playDraw_88 : decode cX8_playDraw 88 = .ok (.bipush 8, 2) := by decide +kernel
theorem dX8_playDraw_90 : decode cX8_playDraw 90 = .ok (.idiv, 1) := by decide +kernel
theorem dX8_playDraw_91 : decode cX8_playDraw 91 = .ok (.iload_n 3, 1) := by decide +kernel
theorem dX8_playDraw_92 : decode cX8_playDraw 92 = .ok (.irem, 1) := by decide +kernel
theorem dX8_playDraw_93 : decode cX8_playDraw 93 = .ok (.invokevirtual 161, 3) := by decide +kernel
theorem dX8_playDraw_96 : decode cX8_playDraw 96 = .ok (.pop, 1) := by decide +kernel
theorem dX8_playDraw_97 : decode cX8_playDraw 97 = .ok (.return_, 1) := by decide +kernel
theorem dX8_howMany_0 : decode cX8_howMany 0 = .ok (.iconst 0, 1) := by decide +kernel
theorem dX8_howMany_1 : decode cX8_howMany 1 = .ok (.istore_n 3, 1) := by decide +kernel
theorem dX8_howMany_2 : decode cX8_howMany 2 = .ok (.iconst 0, 1) := by decide +kernel
theorem dX8_howMany_3 : decode cX8_howMany 3 = .ok (.istore 4, 2) := by decide +kernel
theorem dX8_howMany_5 : decode cX8_howMany 5 = .ok (.iload 4, 2) := by decide +kernel
theorem dX8_howMany_7 : decode cX8_howMany 7 = .ok (.aload_n 0, 1) := by decide +kernel
theorem dX8_howMany_8 : decode cX8_howMany 8 = .ok (.getfield 16, 3) := by decide +kernel
theorem dX8_howMany_11 : decode cX8_howMany 11 = .ok (.invokevirtual 111, 3) := by decide +kernel
theorem dX8_howMany_14 : decode cX8_howMany 14 = .ok (.if_icmp .ge 23, 3) := by decide +kernel
theorem dX8_howMany_17 : decode cX8_howMany 17 = .ok (.aload_n 1, 1) := by decide +kernel
theorem dX8_howMany_18 : decode cX8_howMany 18 = .ok (.iload 4, 2) := by decide +kernel
theorem dX8_howMany_20 : decode cX8_howMany 20 = .ok (.iconst 5, 1) := by decide +kernel
theorem dX8_howMany_21 : decode cX8_howMany 21 = .ok (.invokevirtual 149, 3) := by decide +kernel
theorem dX8_howMany_24 : decode cX8_howMany 24 = .ok (.iload_n 2, 1) := by decide +kernel
theorem dX8_howMany_25 : decode cX8_howMany 25 = .ok (.if_icmp .ne 6, 3) := by decide +kernel
theorem dX8_howMany_28 : decode cX8_howMany 28 = .ok (.iinc 3 1, 3) := by decide +kernel
theorem dX8_howMany_31 : decode cX8_howMany 31 = .ok (.iinc 4 1, 3) := by decide +kernel
theorem dX8_howMany_34 : decode cX8_howMany 34 = .ok (.goto (-29), 3) := by decide +kernel
theorem dX8_howMany_37 : decode cX8_howMany 37 = .ok (.iload_n 3, 1) := by decide +kernel
theorem dX8_howMany_38 : decode cX8_howMany 38 = .ok (.ireturn, 1) := by decide +kernel
theorem dX8_sumOf_0 : decode cX8_sumOf 0 = .ok (.iconst 0, 1) := by decide +kernel
theorem dX8_sumOf_1 : decode cX8_sumOf 1 = .ok (.istore_n 3, 1) := by decide +kernel
theorem dX8_sumOf_2 : decode cX8_sumOf 2 = .ok (.iconst 0, 1) := by decide +kernel
theorem dX8_sumOf_3 : decode cX8_sumOf 3 = .ok (.istore 4, 2) := by decide +kernel
theorem dX8_sumOf_5 : decode cX8_sumOf 5 = .ok (.iload 4, 2) := by decide +kernel
theorem dX8_sumOf_7 : decode cX8_sumOf 7 = .ok (.aload_n 0, 1) := by decide +kernel
theorem dX8_sumOf_8 : decode cX8_sumOf 8 = .ok (.getfield 16, 3) := by decide +kernel
theorem dX8_sumOf_11 : decode cX8_sumOf 11 = .ok (.invokevirtual 111, 3) := by decide +kernel
theorem dX8_sumOf_14 : decode cX8_sumOf 14 = .ok (.if_icmp .ge 19, 3) := by decide +kernel
theorem dX8_sumOf_17 : decode cX8_sumOf 17 = .ok (.iload_n 3, 1) := by decide +kernel
theorem dX8_sumOf_18 : decode cX8_sumOf 18 = .ok (.aload_n 1, 1) := by decide +kernel
theorem dX8_sumOf_19 : decode cX8_sumOf 19 = .ok (.iload 4, 2) := by decide +kernel
theorem dX8_sumOf_21 : decode cX8_sumOf 21 = .ok (.iload_n 2, 1) := by decide +kernel
theorem dX8_sumOf_22 : decode cX8_sumOf 22 = .ok (.invokevirtual 149, 3) := by decide +kernel
theorem dX8_sumOf_25 : decode cX8_sumOf 25 = .ok (.iadd, 1) := by decide +kernel
theorem dX8_sumOf_26 : decode cX8_sumOf 26 = .ok (.istore_n 3, 1) := by decide +kernel
theorem dX8_sumOf_27 : decode cX8_sumOf 27 = .ok (.iinc 4 1, 3) := by decide +kernel
theorem dX8_sumOf_30 : decode cX8_sumOf 30 = .ok (.goto (-25), 3) := by decide +kernel
theorem dX8_sumOf_33 : decode cX8_sumOf 33 = .ok (.iload_n 3, 1) := by decide +kernel
theorem dX8_sumOf_34 : decode cX8_sumOf 34 = .ok (.ireturn, 1) := by decide +kernel
theorem dX9_init_0 : decode cX9_init 0 = .ok (.aload_n 0, 1) := by decide +kernel
theorem dX9_init_1 : decode cX9_init 1 = .ok (.invokespecial 1, 3) := by decide +kernel
theorem dX9_init_4 : decode cX9_init 4 = .ok (.aload_n 0, 1) := by decide +kernel
theorem dX9_init_5 : decode cX9_init 5 = .ok (.bipush 52, 2) := by decide +kernel
theorem dX9_init_7 : decode cX9_init 7 = .ok (.newarray .int, 2) := by decide +kernel
theorem dX9_init_9 : decode cX9_init 9 = .ok (.putfield 7, 3) := by decide +kernel
theorem dX9_init_12 : decode cX9_init 12 = .ok (.aload_n 0, 1) := by decide +kernel
theorem dX9_init_13 : decode cX9_init 13 = .ok (.bipush 52, 2) := by decide +kernel
theorem dX9_init_15 : decode cX9_init 15 = .ok (.newarray .int, 2) := by decide +kernel
theorem dX9_init_17 : decode cX9_init 17 = .ok (.putfield 13, 3) := by decide +kernel
theorem dX9_init_20 : decode cX9_init 20 = .ok (.aload_n 0, 1) := by decide +kernel
theorem dX9_init_21 : decode cX9_init 21 = .ok (.bipush 50, 2) := by decide +kernel
theorem dX9_init_23 : decode cX9_init 23 = .ok (.newarray .int, 2) := by decide +kernel
theorem dX9_init_25 : decode cX9_init 25 = .ok (.putfield 16, 3) := by decide +kernel
theorem dX9_init_28 : decode cX9_init 28 = .ok (.aload_n 0, 1) := by decide +kernel
theorem dX9_init_29 : decode cX9_init 29 = .ok (.bipush 50, 2) := by decide +kernel
theorem dX9_init_31 : decode cX9_init 31 = .ok (.newarray .int, 2) := by decide +kernel
theorem dX9_init_33 : decode cX9_init 33 = .ok (.putfield 19, 3) := by decide +kernel
theorem dX9_init_36 : decode cX9_init 36 = .ok (.aload_n 0, 1) := by decide +kernel
theorem dX9_init_37 : decode cX9_init 37 = .ok (.sipush 400, 3) := by decide +kernel
theorem dX9_init_40 : decode cX9_init 40 = .ok (.newarray .int, 2) := by decide +kernel
theorem dX9_init_42 : decode cX9_init 42 = .ok (.putfield 22, 3) := by decide +kernel
theorem dX9_init_45 : decode cX9_init 45 = .ok (.aload_n 0, 1) := by decide +kernel
theorem dX9_init_46 : decode cX9_init 46 = .ok (.bipush 100, 2) := by decide +kernel
theorem dX9_init_48 : decode cX9_init 48 = .ok (.newarray .int, 2) := by decide +kernel
theorem dX9_init_50 : decode cX9_init 50 = .ok (.putfield 25, 3) := by decide +kernel
theorem dX9_init_53 : decode cX9_init 53 = .ok (.aload_n 0, 1) := by decide +kernel
theorem dX9_init_54 : decode cX9_init 54 = .ok (.bipush 12, 2) := by decide +kernel
theorem dX9_init_56 : decode cX9_init 56 = .ok (.newarray .int, 2) := by decide +kernel
theorem dX9_init_58 : decode cX9_init 58 = .ok (.putfield 28, 3) := by decide +kernel
theorem dX9_init_61 : decode cX9_init 61 = .ok (.aload_n 0, 1) := by decide +kernel
theorem dX9_init_62 : decode cX9_init 62 = .ok (.sipush 200, 3) := by decide +kernel
theorem dX9_init_65 : decode cX9_init 65 = .ok (.newarray .int, 2) := by decide +kernel
theorem dX9_init_67 : decode cX9_init 67 = .ok (.putfield 31, 3) := by decide +kernel
theorem dX9_init_70 : decode cX9_init 70 = .ok (.aload_n 0, 1) := by decide +kernel
theorem dX9_init_71 : decode cX9_init 71 = .ok (.bipush 8, 2) := by decide +kernel
theorem dX9_init_73 : decode cX9_init 73 = .ok (.newarray .int, 2) := by decide +kernel
theorem dX9_init_75 : decode cX9_init 75 = .ok (.putfield 34, 3) := by decide +kernel
theorem dX9_init_78 : decode cX9_init 78 = .ok (.aload_n 0, 1) := by decide +kernel
theorem dX9_init_79 : decode cX9_init 79 = .ok (.bipush 8, 2) := by decide +kernel
theorem dX9_init_81 : decode cX9_init 81 = .ok (.newarray .int, 2) := by decide +kernel
theorem dX9_init_83 : decode cX9_init 83 = .ok (.putfield 37, 3) := by decide +kernel
theorem dX9_init_86 : decode cX9_init 86 = .ok (.aload_n 0, 1) := by decide +kernel
theorem dX9_init_87 : decode cX9_init 87 = .ok (.iconst 3, 1) := by decide +kernel
theorem dX9_init_88 : decode cX9_init 88 = .ok (.newarray .int, 2) := by decide +kernel
theorem dX9_init_90 : decode cX9_init 90 = .ok (.putfield 40, 3) := by decide +kernel
theorem dX9_init_93 : decode cX9_init 93 = .ok (.aload_n 0, 1) := by decide +kernel
theorem dX9_init_94 : decode cX9_init 94 = .ok (.iconst 5, 1) := by decide +kernel
theorem dX9_init_95 : decode cX9_init 95 = .ok (.newarray .int, 2) := by decide +kernel
theorem dX9_init_97 : decode cX9_init 97 = .ok (.putfield 43, 3) := by decide +kernel
theorem dX9_init_100 : decode cX9_init 100 = .ok (.aload_n 0, 1) := by decide +kernel
theorem dX9_init_101 : decode cX9_init 101 = .ok (.iconst 5, 1) := by decide +kernel
theorem dX9_init_102 : decode cX9_init 102 = .ok (.newarray .int, 2) := by decide +kernel
theorem dX9_init_104 : decode cX9_init 104 = .ok (.putfield 46, 3) := by decide +kernel
theorem dX9_init_107 : decode cX9_init 107 = .ok (.aload_n 0, 1) := by decide +kernel
theorem dX9_init_108 : decode cX9_init 108 = .ok (.iconst 5, 1) := by decide +kernel
theorem dX9_init_109 : decode cX9_init 109 = .ok (.newarray .int, 2) := by decide +kernel
theorem dX9_init_111 : decode cX9_init 111 = .ok (.putfield 49, 3) := by decide +kernel
theorem dX9_init_114 : decode cX9_init 114 = .ok (.aload_n 0, 1) := by decide +kernel
theorem dX9_init_115 : decode cX9_init 115 = .ok (.bipush 25, 2) := by decide +kernel
theorem dX9_init_117 : decode cX9_init 117 = .ok (.newarray .int, 2) := by decide +kernel
theorem dX9_init_119 : decode cX9_init 119 = .ok (.putfield 52, 3) := by decide +kernel
theorem dX9_init_122 : decode cX9_init 122 = .ok (.aload_n 0, 1) := by decide +kernel
theorem dX9_init_123 : decode cX9_init 123 = .ok (.iconst 5, 1) := by decide +kernel
theorem dX9_init_124 : decode cX9_init 124 = .ok (.newarray .int, 2) := by decide +kernel
theorem dX9_init_126 : decode cX9_init 126 = .ok (.putfield 55, 3) := by decide +kernel
theorem dX9_init_129 : decode cX9_init 129 = .ok (.aload_n 0, 1) := by decide +kernel
theorem dX9_init_130 : decode cX9_init 130 = .ok (.getfield 7, 3) := by decide +kernel
theorem dX9_init_133 : decode cX9_init 133 = .ok (.iconst 3, 1) := by decide +kernel
theorem dX9_init_134 : decode cX9_init 134 = .ok (.sipush 128, 3) := by decide +kernel
theorem dX9_init_137 : decode cX9_init 137 = .ok (.iastore, 1) := by decide +kernel
theorem dX9_init_138 : decode cX9_init 138 = .ok (.aload_n 0, 1) := by decide +kernel
theorem dX9_init_139 : decode cX9_init 139 = .ok (.getfield 7, 3) := by decide +kernel
theorem dX9_init_142 : decode cX9_init 142 = .ok (.iconst 4, 1) := by decide +kernel
theorem dX9_init_143 : decode cX9_init 143 = .ok (.iconst 3, 1) := by decide +kernel
theorem dX9_init_144 : decode cX9_init 144 = .ok (.iastore, 1) := by decide +kernel
theorem dX9_init_145 : decode cX9_init 145 = .ok (.aload_n 0, 1) := by decide +kernel
theorem dX9_init_146 : decode cX9_init 146 = .ok (.getfield 7, 3) := by decide +kernel
theorem dX9_init_149 : decode cX9_init 149 = .ok (.iconst 5, 1) := by decide +kernel
theorem dX9_init_150 : decode cX9_init 150 = .ok (.iconst 2, 1) := by decide +kernel
theorem dX9_init_151 : decode cX9_init 151 = .ok (.iastore, 1) := by decide +kernel
theorem dX9_init_152 : decode cX9_init 152 = .ok (.aload_n 0, 1) := by decide +kernel
theorem dX9_init_153 : decode cX9_init 153 = .ok (.getfield 7, 3) := by decide +kernel
theorem dX9_init_156 : decode cX9_init 156 = .ok (.bipush 6, 2) := by decide +kernel
theorem dX9_init_158 : decode cX9_init 158 = .ok (.iconst 2, 1) := by decide +kernel
theorem dX9_init_159 : decode cX9_init 159 = .ok (.iastore, 1) := by decide +kernel
theorem dX9_init_160 : decode cX9_init 160 = .ok (.aload_n 0, 1) := by decide +kernel
theorem dX9_init_161 : decode cX9_init 161 = .ok (.getfield 7, 3) := by decide +kernel
theorem dX9_init_164 : decode cX9_init 164 = .ok (.iconst 5, 1) := by decide +kernel
theorem dX9_init_165 : decode cX9_init 165 = .ok (.iconst 2, 1) := by decide +kernel
theorem dX9_init_166 : decode cX9_init 166 = .ok (.iconst 3, 1) := by decide +kernel
theorem dX9_init_167 : decode cX9_init 167 = .ok (.invokestatic 58, 3) := by decide +kernel
theorem dX9_init_170 : decode cX9_init 170 = .ok (.aload_n 0, 1) := by decide +kernel
theorem dX9_init_171 : decode cX9_init 171 = .ok (.getfield 7, 3) := by decide +kernel
theorem dX9_init_174 : decode cX9_init 174 = .ok (.iconst 3, 1) := by decide +kernel
theorem dX9_init_175 : decode cX9_init 175 = .ok (.iconst 3, 1) := by decide +kernel
theorem dX9_init_176 : decode cX9_init 176 = .ok (.bipush 7, 2) := by decide +kernel
theorem dX9_init_178 : decode cX9_init 178 = .ok (.invokestatic 58, 3) := by decide +kernel
theorem dX9_init_181 : decode cX9_init 181 = .ok (.aload_n 0, 1) := by decide +kernel
theorem dX9_init_182 : decode cX9_init 182 = .ok (.getfield 7, 3) := by decide +kernel
theorem dX9_init_185 : decode cX9_init 185 = .ok (.bipush 7, 2) := by decide +kernel
theorem dX9_init_187 : decode cX9_init 187 = .ok (.iconst 1, 1) := by decide +kernel
theorem dX9_init_188 : decode cX9_init 188 = .ok (.bipush 8, 2) := by decide +kernel
theorem dX9_init_190 : decode cX9_init 190 = .ok (.invokestatic 58, 3) := by decide +kernel
theorem dX9_init_193 : decode cX9_init 193 = .ok (.aload_n 0, 1) := by decide +kernel
theorem dX9_init_194 : decode cX9_init 194 = .ok (.getfield 7, 3) := by decide +kernel
theorem dX9_init_197 : decode cX9_init 197 = .ok (.iconst 2, 1) := by decide +kernel
theorem dX9_init_198 : decode cX9_init 198 = .ok (.iconst 2, 1) := by decide +kernel
theorem dX9_init_199 : decode cX9_init 199 = .ok (.bipush 24, 2) := by decide +kernel
theorem dX9_init_201 : decode cX9_init 201 = .ok (.invokestatic 58, 3) := by decide +kernel
theorem dX9_init_204 : decode cX9_init 204 = .ok (.aload_n 0, 1) := by decide +kernel
theorem dX9_init_205 : decode cX9_init 205 = .ok (.getfield 7, 3) := by decide +kernel
theorem dX9_init_208 : decode cX9_init 208 = .ok (.iconst 4, 1) := by decide +kernel
theorem dX9_init_209 : decode cX9_init 209 = .ok (.iconst 2, 1) := by decide +kernel
theorem dX9_init_210 : decode cX9_init 210 = .ok (.bipush 33, 2) := by decide +kernel
theorem dX9_init_212 : decode cX9_init 212 = .ok (.invokestatic 58, 3) := by decide +kernel
theorem dX9_init_215 : decode cX9_init 215 = .ok (.aload_n 0, 1) := by decide +kernel
theorem dX9_init_216 : decode cX9_init 216 = .ok (.getfield 7, 3) := by decide +kernel
theorem dX9_init_219 : decode cX9_init 219 = .ok (.bipush 6, 2) := by decide +kernel
theorem dX9_init_221 : decode cX9_init 221 = .ok (.iconst 1, 1) := by decide +kernel
theorem dX9_init_222 : decode cX9_init 222 = .ok (.iconst 4, 1) := by decide +kernel
theorem dX9_init_223 : decode cX9_init 223 = .ok (.invokestatic 58, 3) := by decide +kernel
theorem dX9_init_226 : decode cX9_init 226 = .ok (.aload_n 0, 1) := by decide +kernel
theorem dX9_init_227 : decode cX9_init 227 = .ok (.getfield 7, 3) := by decide +kernel
theorem dX9_init_230 : decode cX9_init 230 = .ok (.iconst 1, 1) := by decide +kernel
theorem dX9_init_231 : decode cX9_init 231 = .ok (.iconst 4, 1) := by decide +kernel
theorem dX9_init_232 : decode cX9_init 232 = .ok (.iastore, 1) := by decide +kernel
theorem dX9_init_233 : decode cX9_init 233 = .ok (.aload_n 0, 1) := by decide +kernel
theorem dX9_init_234 : decode cX9_init 234 = .ok (.getfield 7, 3) := by decide +kernel
theorem dX9_init_237 : decode cX9_init 237 = .ok (.bipush 31, 2) := by decide +kernel
theorem dX9_init_239 : decode cX9_init 239 = .ok (.iconst 3, 1) := by decide +kernel
theorem dX9_init_240 : decode cX9_init 240 = .ok (.iastore, 1) := by decide +kernel
theorem dX9_init_241 : decode cX9_init 241 = .ok (.aload_n 0, 1) := by decide +kernel
theorem dX9_init_242 : decode cX9_init 242 = .ok (.getfield 7, 3) := by decide +kernel
theorem dX9_init_245 : decode cX9_init 245 = .ok (.bipush 32, 2) := by decide +kernel
theorem dX9_init_247 : decode cX9_init 247 = .ok (.bipush 12, 2) := by decide +kernel
theorem dX9_init_249 : decode cX9_init 249 = .ok (.iastore, 1) := by decide +kernel
theorem dX9_init_250 : decode cX9_init 250 = .ok (.aload_n 0, 1) := by decide +kernel
theorem dX9_init_251 : decode cX9_init 251 = .ok (.getfield 7, 3) := by decide +kernel
theorem dX9_init_254 : decode cX9_init 254 = .ok (.bipush 33, 2) := by decide +kernel
theorem dX9_init_256 : decode cX9_init 256 = .ok (.bipush 16, 2) := by decide +kernel
theorem dX9_init_258 : decode cX9_init 258 = .ok (.iastore, 1) := by decide +kernel
theorem dX9_init_259 : decode cX9_init 259 = .ok (.aload_n 0, 1) := by decide +kernel
theorem dX9_init_260 : decode cX9_init 260 = .ok (.getfield 7, 3) := by decide +kernel
theorem dX9_init_263 : decode cX9_init 263 = .ok (.bipush 34, 2) := by decide +kernel
theorem dX9_init_265 : decode cX9_init 265 = .ok (.bipush 36, 2) := by decide +kernel
theorem dX9_init_267 : decode cX9_init 267 = .ok (.iastore, 1) := by decide +kernel
theorem dX9_init_268 : decode cX9_init 268 = .ok (.aload_n 0, 1) := by decide +kernel
theorem dX9_init_269 : decode cX9_init 269 = .ok (.getfield 7, 3) := by decide +kernel
theorem dX9_init_272 : decode cX9_init 272 = .ok (.iconst 0, 1) := by decide +kernel
theorem dX9_init_273 : decode cX9_init 273 = .ok (.iconst 0, 1) := by decide +kernel
theorem dX9_init_274 : decode cX9_init 274 = .ok (.bipush 20, 2) := by decide +kernel
theorem dX9_init_276 : decode cX9_init 276 = .ok (.invokestatic 62, 3) := by decide +kernel
theorem dX9_init_279 : decode cX9_init 279 = .ok (.aload_n 0, 1) := by decide +kernel
theorem dX9_init_280 : decode cX9_init 280 = .ok (.getfield 7, 3) := by decide +kernel
theorem dX9_init_283 : decode cX9_init 283 = .ok (.iconst 1, 1) := by decide +kernel
theorem dX9_init_284 : decode cX9_init 284 = .ok (.iconst 3, 1) := by decide +kernel
theorem dX9_init_285 : decode cX9_init 285 = .ok (.bipush 9, 2) := by decide +kernel
theorem dX9_init_287 : decode cX9_init 287 = .ok (.invokestatic 62, 3) := by decide +kernel
theorem dX9_init_290 : decode cX9_init 290 = .ok (.aload_n 0, 1) := by decide +kernel
theorem dX9_init_291 : decode cX9_init 291 = .ok (.getfield 7, 3) := by decide +kernel
theorem dX9_init_294 : decode cX9_init 294 = .ok (.iconst 2, 1) := by decide +kernel
theorem dX9_init_295 : decode cX9_init 295 = .ok (.iconst 4, 1) := by decide +kernel
theorem dX9_init_296 : decode cX9_init 296 = .ok (.bipush 30, 2) := by decide +kernel
theorem dX9_init_298 : decode cX9_init 298 = .ok (.invokestatic 62, 3) := by decide +kernel
theorem dX9_init_301 : decode cX9_init 301 = .ok (.aload_n 0, 1) := by decide +kernel
theorem dX9_init_302 : decode cX9_init 302 = .ok (.getfield 7, 3) := by decide +kernel
theorem dX9_init_305 : decode cX9_init 305 = .ok (.iconst 3, 1) := by decide +kernel
theorem dX9_init_306 : decode cX9_init 306 = .ok (.iconst 1, 1) := by decide +kernel
theorem dX9_init_307 : decode cX9_init 307 = .ok (.bipush 15, 2) := by decide +kernel
theorem dX9_init_309 : decode cX9_init 309 = .ok (.invokestatic 62, 3) := by decide +kernel
theorem dX9_init_312 : decode cX9_init 312 = .ok (.aload_n 0, 1) := by decide +kernel
theorem dX9_init_313 : decode cX9_init 313 = .ok (.invokevirtual 65, 3) := by decide +kernel
theorem dX9_init_316 : decode cX9_init 316 = .ok (.return_, 1) := by decide +kernel
theorem dX9_in_0 : decode cX9_in 0 = .ok (.lload_n 0, 1) := by decide +kernel
theorem dX9_in_1 : decode cX9_in 1 = .ok (.lload_n 2, 1) := by decide +kernel
theorem dX9_in_2 : decode cX9_in 2 = .ok (.lcmp, 1) := by decide +kernel
theorem dX9_in_3 : decode cX9_in 3 = .ok (.ifCond .lt 14, 3) := by decide +kernel
theorem dX9_in_6 : decode cX9_in 6 = .ok (.lload_n 0, 1) := by decide +kernel
theorem dX9_in_7 : decode cX9_in 7 = .ok (.lload 4, 2) := by decide +kernel
theorem dX9_in_9 : decode cX9_in 9 = .ok (.lcmp, 1) := by decide +kernel
theorem dX9_in_10 : decode cX9_in 10 = .ok (.ifCond .gt 7, 3) := by decide +kernel
theorem dX9_in_13 : decode cX9_in 13 = .ok (.iconst 1, 1) := by decide +kernel
theorem dX9_in_14 : decode cX9_in 14 = .ok (.goto 4, 3) := by decide +kernel
theorem dX9_in_17 : decode cX9_in 17 = .ok (.iconst 0, 1) := by decide +kernel
theorem dX9_in_18 : decode cX9_in 18 = .ok (.ireturn, 1) := by decide +kernel
theorem dX9_has_0 : decode cX9_has 0 = .ok (.iload_n 0, 1) := by decide +kernel
theorem dX9_has_1 : decode cX9_has 1 = .ok (.iload_n 1, 1) := by decide +kernel
theorem dX9_has_2 : decode cX9_has 2 = .ok (.ishr, 1) := by decide +kernel
theorem dX9_has_3 : decode cX9_has 3 = .ok (.iconst 1, 1) := by decide +kernel
theorem dX9_has_4 : decode cX9_has 4 = .ok (.iand, 1) := by decide +kernel
theorem dX9_has_5 : decode cX9_has 5 = .ok (.iconst 1, 1) := by decide +kernel
theorem dX9_has_6 : decode cX9_has 6 = .ok (.if_icmp .ne 7, 3) := by decide +kernel
theorem dX9_has_9 : decode cX9_has 9 = .ok (.iconst 1, 1) := by decide +kernel
theorem dX9_has_10 : decode cX9_has 10 = .ok (.goto 4, 3) := by decide +kernel
theorem dX9_has_13 : decode cX9_has 13 = .ok (.iconst 0, 1) := by decide +kernel
theorem dX9_has_14 : decode cX9_has 14 = .ok (.ireturn, 1) := by decide +kernel
theorem dX9_bits_0 : decode cX9_bits 0 = .ok (.iconst 0, 1) := by decide +kernel
theorem dX9_bits_1 : decode cX9_bits 1 = .ok (.istore_n 1, 1) := by decide +kernel
theorem dX9_bits_2 : decode cX9_bits 2 = .ok (.iload_n 0, 1) := by decide +kernel
theorem dX9_bits_3 : decode cX9_bits 3 = .ok (.istore_n 2, 1) := by decide +kernel
theorem dX9_bits_4 : decode cX9_bits 4 = .ok (.iload_n 2, 1) := by decide +kernel
theorem dX9_bits_5 : decode cX9_bits 5 = .ok (.ifCond .eq 15, 3) := by decide +kernel
theorem dX9_bits_8 : decode cX9_bits 8 = .ok (.iinc 1 1, 3) := by decide +kernel
theorem dX9_bits_11 : decode cX9_bits 11 = .ok (.iload_n 2, 1) := by decide +kernel
theorem dX9_bits_12 : decode cX9_bits 12 = .ok (.iload_n 2, 1) := by decide +kernel
theorem dX9_bits_13 : decode cX9_bits 13 = .ok (.iconst 1, 1) := by decide +kernel
theorem dX9_bits_14 : decode cX9_bits 14 = .ok (.isub, 1) := by decide +kernel
theorem dX9_bits_15 : decode cX9_bits 15 = .ok (.iand, 1) := by decide +kernel
theorem dX9_bits_16 : decode cX9_bits 16 = .ok (.istore_n 2, 1) := by decide +kernel
theorem dX9_bits_17 : decode cX9_bits 17 = .ok (.goto (-13), 3) := by decide +kernel
theorem dX9_bits_20 : decode cX9_bits 20 = .ok (.iload_n 1, 1) := by decide +kernel
theorem dX9_bits_21 : decode cX9_bits 21 = .ok (.ireturn, 1) := by decide +kernel
theorem dX9_copies_0 : decode cX9_copies 0 = .ok (.iconst 0, 1) := by decide +kernel
theorem dX9_copies_1 : decode cX9_copies 1 = .ok (.istore 5, 2) := by decide +kernel
theorem dX9_copies_3 : decode cX9_copies 3 = .ok (.iload 5, 2) := by decide +kernel
theorem dX9_copies_5 : decode cX9_copies 5 = .ok (.iload 4, 2) := by decide +kernel
theorem dX9_copies_7 : decode cX9_copies 7 = .ok (.if_icmp .ge 21, 3) := by decide +kernel
theorem dX9_copies_10 : decode cX9_copies 10 = .ok (.aload_n 2, 1) := by decide +kernel
theorem dX9_copies_11 : decode cX9_copies 11 = .ok (.iload_n 3, 1) := by decide +kernel
theorem dX9_copies_12 : decode cX9_copies 12 = .ok (.iload 5, 2) := by decide +kernel
theorem dX9_copies_14 : decode cX9_copies 14 = .ok (.iadd, 1) := by decide +kernel
theorem dX9_copies_15 : decode cX9_copies 15 = .ok (.aload_n 0, 1) := by decide +kernel
theorem dX9_copies_16 : decode cX9_copies 16 = .ok (.iload_n 1, 1) := by decide +kernel
theorem dX9_copies_17 : decode cX9_copies 17 = .ok (.iload 5, 2) := by decide +kernel
theorem dX9_copies_19 : decode cX9_copies 19 = .ok (.iadd, 1) := by decide +kernel
theorem dX9_copies_20 : decode cX9_copies 20 = .ok (.iaload, 1) := by decide +kernel
theorem dX9_copies_21 : decode cX9_copies 21 = .ok (.iastore, 1) := by decide +kernel
theorem dX9_copies_22 : decode cX9_copies 22 = .ok (.iinc 5 1, 3) := by decide +kernel
theorem dX9_copies_25 : decode cX9_copies 25 = .ok (.goto (-22), 3) := by decide +kernel
theorem dX9_copies_28 : decode cX9_copies 28 = .ok (.return_, 1) := by decide +kernel
theorem dX9_word_0 : decode cX9_word 0 = .ok (.aload_n 0, 1) := by decide +kernel
theorem dX9_word_1 : decode cX9_word 1 = .ok (.iconst 0, 1) := by decide +kernel
theorem dX9_word_2 : decode cX9_word 2 = .ok (.iaload, 1) := by decide +kernel
theorem dX9_word_3 : decode cX9_word 3 = .ok (.istore 4, 2) := by decide +kernel
theorem dX9_word_5 : decode cX9_word 5 = .ok (.aload_n 0, 1) := by decide +kernel
theorem dX9_word_6 : decode cX9_word 6 = .ok (.bipush 7, 2) := by decide +kernel
theorem dX9_word_8 : decode cX9_word 8 = .ok (.iload 4, 2) := by decide +kernel
theorem dX9_word_10 : decode cX9_word 10 = .ok (.iadd, 1) := by decide +kernel
theorem dX9_word_11 : decode cX9_word 11 = .ok (.iload_n 1, 1) := by decide +kernel
theorem dX9_word_12 : decode cX9_word 12 = .ok (.iastore, 1) := by decide +kernel
theorem dX9_word_13 : decode cX9_word 13 = .ok (.aload_n 0, 1) := by decide +kernel
theorem dX9_word_14 : decode cX9_word 14 = .ok (.bipush 15, 2) := by decide +kernel
theorem dX9_word_16 : decode cX9_word 16 = .ok (.iload 4, 2) := by decide +kernel
theorem dX9_word_18 : decode cX9_word 18 = .ok (.iadd, 1) := by decide +kernel
theorem dX9_word_19 : decode cX9_word 19 = .ok (.iload_n 2, 1) := by decide +kernel
theorem dX9_word_20 : decode cX9_word 20 = .ok (.iastore, 1) := by decide +kernel
theorem dX9_word_21 : decode cX9_word 21 = .ok (.aload_n 0, 1) := by decide +kernel
theorem dX9_word_22 : decode cX9_word 22 = .ok (.bipush 23, 2) := by decide +kernel
theorem dX9_word_24 : decode cX9_word 24 = .ok (.iload 4, 2) := by decide +kernel
theorem dX9_word_26 : decode cX9_word 26 = .ok (.iadd, 1) := by decide +kernel
theorem dX9_word_27 : decode cX9_word 27 = .ok (.iload_n 3, 1) := by decide +kernel
theorem dX9_word_28 : decode cX9_word 28 = .ok (.iastore, 1) := by decide +kernel
theorem dX9_word_29 : decode cX9_word 29 = .ok (.aload_n 0, 1) := by decide +kernel
theorem dX9_word_30 : decode cX9_word 30 = .ok (.iconst 0, 1) := by decide +kernel
theorem dX9_word_31 : decode cX9_word 31 = .ok (.dup2, 1) := by decide +kernel
theorem dX9_word_32 : decode cX9_word 32 = .ok (.iaload, 1) := by decide +kernel
theorem dX9_word_33 : decode cX9_word 33 = .ok (.iconst 1, 1) := by decide +kernel
theorem dX9_word_34 : decode cX9_word 34 = .ok (.iadd, 1) := by decide +kernel
theorem dX9_word_35 : decode cX9_word 35 = .ok (.iastore, 1) := by decide +kernel
theorem dX9_word_36 : decode cX9_word 36 = .ok (.return_, 1) := by decide +kernel
theorem dX9_actor_0 : decode cX9_actor 0 = .ok (.aload_n 0, 1) := by decide +kernel
theorem dX9_actor_1 : decode cX9_actor 1 = .ok (.iconst 2, 1) := by decide +kernel
theorem dX9_actor_2 : decode cX9_actor 2 = .ok (.iaload, 1) := by decide +kernel
theorem dX9_actor_3 : decode cX9_actor 3 = .ok (.istore 4, 2) := by decide +kernel
theorem dX9_actor_5 : decode cX9_actor 5 = .ok (.aload_n 0, 1) := by decide +kernel
theorem dX9_actor_6 : decode cX9_actor 6 = .ok (.bipush 37, 2) := by decide +kernel
theorem dX9_actor_8 : decode cX9_actor 8 = .ok (.iload 4, 2) := by decide +kernel
theorem dX9_actor_10 : decode cX9_actor 10 = .ok (.iadd, 1) := by decide +kernel
theorem dX9_actor_11 : decode cX9_actor 11 = .ok (.iload_n 1, 1) := by decide +kernel
theorem dX9_actor_12 : decode cX9_actor 12 = .ok (.iastore, 1) := by decide +kernel
theorem dX9_actor_13 : decode cX9_actor 13 = .ok (.aload_n 0, 1) := by decide +kernel
theorem dX9_actor_14 : decode cX9_actor 14 = .ok (.bipush 42, 2) := by decide +kernel
theorem dX9_actor_16 : decode cX9_actor 16 = .ok (.iload 4, 2) := by decide +kernel
theorem dX9_actor_18 : decode cX9_actor 18 = .ok (.iadd, 1) := by decide +kernel
theorem dX9_actor_19 : decode cX9_actor 19 = .ok (.iload_n 2, 1) := by decide +kernel
theorem dX9_actor_20 : decode cX9_actor 20 = .ok (.iastore, 1) := by decide +kernel
theorem dX9_actor_21 : decode cX9_actor 21 = .ok (.aload_n 0, 1) := by decide +kernel
theorem dX9_actor_22 : decode cX9_actor 22 = .ok (.bipush 47, 2) := by decide +kernel
theorem dX9_actor_24 : decode cX9_actor 24 = .ok (.iload 4, 2) := by decide +kernel
theorem dX9_actor_26 : decode cX9_actor 26 = .ok (.iadd, 1) := by decide +kernel
theorem dX9_actor_27 : decode cX9_actor 27 = .ok (.iload_n 3, 1) := by decide +kernel
theorem dX9_actor_28 : decode cX9_actor 28 = .ok (.iastore, 1) := by decide +kernel
theorem dX9_actor_29 : decode cX9_actor 29 = .ok (.aload_n 0, 1) := by decide +kernel
theorem dX9_actor_30 : decode cX9_actor 30 = .ok (.iconst 2, 1) := by decide +kernel
theorem dX9_actor_31 : decode cX9_actor 31 = .ok (.dup2, 1) := by decide +kernel
theorem dX9_actor_32 : decode cX9_actor 32 = .ok (.iaload, 1) := by decide +kernel
theorem dX9_actor_33 : decode cX9_actor 33 = .ok (.iconst 1, 1) := by decide +kernel
theorem dX9_actor_34 : decode cX9_actor 34 = .ok (.iadd, 1) := by decide +kernel
theorem dX9_actor_35 : decode cX9_actor 35 = .ok (.iastore, 1) := by decide +kernel
theorem dX9_actor_36 : decode cX9_actor 36 = .ok (.return_, 1) := by decide +kernel
theorem dX9_begins_0 : decode cX9_begins 0 = .ok (.iconst 0, 1) := by decide +kernel
theorem dX9_begins_1 : decode cX9_begins 1 = .ok (.istore_n 1, 1) := by decide +kernel
theorem dX9_begins_2 : decode cX9_begins 2 = .ok (.iload_n 1, 1) := by decide +kernel
theorem dX9_begins_3 : decode cX9_begins 3 = .ok (.bipush 50, 2) := by decide +kernel
theorem dX9_begins_5 : decode cX9_begins 5 = .ok (.if_icmp .ge 16, 3) := by decide +kernel
theorem dX9_begins_8 : decode cX9_begins 8 = .ok (.aload_n 0, 1) := by decide +kernel
theorem dX9_begins_9 : decode cX9_begins 9 = .ok (.getfield 16, 3) := by decide +kernel
theorem dX9_begins_12 : decode cX9_begins 12 = .ok (.iload_n 1, 1) := by decide +kernel
theorem dX9_begins_13 : decode cX9_begins 13 = .ok (.iconst 0, 1) := by decide +kernel
theorem dX9_begins_14 : decode cX9_begins 14 = .ok (.iastore, 1) := by decide +kernel
theorem dX9_begins_15 : decode cX9_begins 15 = .ok (.iinc 1 1, 3) := by decide +kernel
theorem dX9_begins_18 : decode cX9_begins 18 = .ok (.goto (-16), 3) := by decide +kernel
theorem dX9_begins_21 : decode cX9_begins 21 = .ok (.iconst 0, 1) := by decide +kernel
theorem dX9_begins_22 : decode cX9_begins 22 = .ok (.istore_n 1, 1) := by decide +kernel
theorem dX9_begins_23 : decode cX9_begins 23 = .ok (.iload_n 1, 1) := by decide +kernel
theorem dX9_begins_24 : decode cX9_begins 24 = .ok (.aload_n 0, 1) := by decide +kernel
theorem dX9_begins_25 : decode cX9_begins 25 = .ok (.getfield 7, 3) := by decide +kernel
theorem dX9_begins_28 : decode cX9_begins 28 = .ok (.iconst 2, 1) := by decide +kernel
theorem dX9_begins_29 : decode cX9_begins 29 = .ok (.iaload, 1) := by decide +kernel
theorem dX9_begins_30 : decode cX9_begins 30 = .ok (.if_icmp .ge 43, 3) := by decide +kernel
theorem dX9_begins_33 : decode cX9_begins 33 = .ok (.aload_n 0, 1) := by decide +kernel
theorem dX9_begins_34 : decode cX9_begins 34 = .ok (.getfield 16, 3) := by decide +kernel
theorem dX9_begins_37 : decode cX9_begins 37 = .ok (.iconst 0, 1) := by decide +kernel
theorem dX9_begins_38 : decode cX9_begins 38 = .ok (.iload_n 1, 1) := by decide +kernel
theorem dX9_begins_39 : decode cX9_begins 39 = .ok (.iadd, 1) := by decide +kernel
theorem dX9_begins_40 : decode cX9_begins 40 = .ok (.aload_n 0, 1) := by decide +kernel
theorem dX9_begins_41 : decode cX9_begins 41 = .ok (.getfield 7, 3) := by decide +kernel
theorem dX9_begins_44 : decode cX9_begins 44 = .ok (.bipush 42, 2) := by decide +kernel
theorem dX9_begins_46 : decode cX9_begins 46 = .ok (.iload_n 1, 1) := by decide +kernel
theorem dX9_begins_47 : decode cX9_begins 47 = .ok (.iadd, 1) := by decide +kernel
theorem dX9_begins_48 : decode cX9_begins 48 = .ok (.iaload, 1) := by decide +kernel
theorem dX9_begins_49 : decode cX9_begins 49 = .ok (.iastore, 1) := by decide +kernel
theorem dX9_begins_50 : decode cX9_begins 50 = .ok (.aload_n 0, 1) := by decide +kernel
theorem dX9_begins_51 : decode cX9_begins 51 = .ok (.getfield 16, 3) := by decide +kernel
theorem dX9_begins_54 : decode cX9_begins 54 = .ok (.iconst 5, 1) := by decide +kernel
theorem dX9_begins_55 : decode cX9_begins 55 = .ok (.iload_n 1, 1) := by decide +kernel
theorem dX9_begins_56 : decode cX9_begins 56 = .ok (.iadd, 1) := by decide +kernel
theorem dX9_begins_57 : decode cX9_begins 57 = .ok (.aload_n 0, 1) := by decide +kernel
theorem dX9_begins_58 : decode cX9_begins 58 = .ok (.getfield 7, 3) := by decide +kernel
theorem dX9_begins_61 : decode cX9_begins 61 = .ok (.bipush 47, 2) := by decide +kernel
theorem dX9_begins_63 : decode cX9_begins 63 = .ok (.iload_n 1, 1) := by decide +kernel
theorem dX9_begins_64 : decode cX9_begins 64 = .ok (.iadd, 1) := by decide +kernel
theorem dX9_begins_65 : decode cX9_begins 65 = .ok (.iaload, 1) := by decide +kernel
theorem dX9_begins_66 : decode cX9_begins 66 = .ok (.iastore, 1) := by decide +kernel
theorem dX9_begins_67 : decode cX9_begins 67 = .ok (.iinc 1 1, 3) := by decide +kernel
theorem dX9_begins_70 : decode cX9_begins 70 = .ok (.goto (-47), 3) := by decide +kernel
theorem dX9_begins_73 : decode cX9_begins 73 = .ok (.aload_n 0, 1) := by decide +kernel
theorem dX9_begins_74 : decode cX9_begins 74 = .ok (.iconst 0, 1) := by decide +kernel
theorem dX9_begins_75 : decode cX9_begins 75 = .ok (.putfield 68, 3) := by decide +kernel
theorem dX9_begins_78 : decode cX9_begins 78 = .ok (.aload_n 0, 1) := by decide +kernel
theorem dX9_begins_79 : decode cX9_begins 79 = .ok (.iconst 0, 1) := by decide +kernel
theorem dX9_begins_80 : decode cX9_begins 80 = .ok (.putfield 72, 3) := by decide +kernel
theorem dX9_begins_83 : decode cX9_begins 83 = .ok (.aload_n 0, 1) := by decide +kernel
theorem dX9_begins_84 : decode cX9_begins 84 = .ok (.iconst 0, 1) := by decide +kernel
theorem dX9_begins_85 : decode cX9_begins 85 = .ok (.putfield 75, 3) := by decide +kernel
theorem dX9_begins_88 : decode cX9_begins 88 = .ok (.return_, 1) := by decide +kernel
theorem dX9_write_0 : decode cX9_write 0 = .ok (.iload_n 1, 1) := by decide +kernel
theorem dX9_write_1 : decode cX9_write 1 = .ok (.i2l, 1) := by decide +kernel
theorem dX9_write_2 : decode cX9_write 2 = .ok (.ldc2_w 78, 3) := by decide +kernel
theorem dX9_write_5 : decode cX9_write 5 = .ok (.ldc2_w 80, 3) := by decide +kernel
theorem dX9_write_8 : decode cX9_write 8 = .ok (.invokestatic 82, 3) := by decide +kernel
theorem dX9_write_11 : decode cX9_write 11 = .ok (.ifCond .ne 5, 3) := by decide +kernel
theorem dX9_write_14 : decode cX9_write 14 = .ok (.iconst (-1), 1) := by decide +kernel
theorem dX9_write_15 : decode cX9_write 15 = .ok (.ireturn, 1) := by decide +kernel
theorem dX9_write_16 : decode cX9_write 16 = .ok (.aload_n 0, 1) := by decide +kernel
theorem dX9_write_17 : decode cX9_write 17 = .ok (.getfield 86, 3) := by decide +kernel
theorem dX9_write_20 : decode cX9_write 20 = .ok (.sipush 200, 3) := by decide +kernel
theorem dX9_write_23 : decode cX9_write 23 = .ok (.if_icmp .ne 6, 3) := by decide +kernel
theorem dX9_write_26 : decode cX9_write 26 = .ok (.bipush (-3), 2) := by decide +kernel
theorem dX9_write_28 : decode cX9_write 28 = .ok (.ireturn, 1) := by decide +kernel
theorem dX9_write_29 : decode cX9_write 29 = .ok (.aload_n 0, 1) := by decide +kernel
theorem dX9_write_30 : decode cX9_write 30 = .ok (.getfield 31, 3) := by decide +kernel
theorem dX9_write_33 : decode cX9_write 33 = .ok (.aload_n 0, 1) := by decide +kernel
theorem dX9_write_34 : decode cX9_write 34 = .ok (.getfield 86, 3) := by decide +kernel
theorem dX9_write_37 : decode cX9_write 37 = .ok (.iload_n 1, 1) := by decide +kernel
theorem dX9_write_38 : decode cX9_write 38 = .ok (.iastore, 1) := by decide +kernel
theorem dX9_write_39 : decode cX9_write 39 = .ok (.aload_n 0, 1) := by decide +kernel
theorem dX9_write_40 : decode cX9_write 40 = .ok (.dup, 1) := by decide +kernel
theorem dX9_write_41 : decode cX9_write 41 = .ok (.getfield 86, 3) := by decide +kernel
theorem dX9_write_44 : decode cX9_write 44 = .ok (.iconst 1, 1) := by decide +kernel
theorem dX9_write_45 : decode cX9_write 45 = .ok (.iadd, 1) := by decide +kernel
theorem dX9_write_46 : decode cX9_write 46 = .ok (.putfield 86, 3) := by decide +kernel
theorem dX9_write_49 : decode cX9_write 49 = .ok (.aload_n 0, 1) := by decide +kernel
theorem dX9_write_50 : decode cX9_write 50 = .ok (.getfield 86, 3) := by decide +kernel
theorem dX9_write_53 : decode cX9_write 53 = .ok (.ireturn, 1) := by decide +kernel
theorem dX9_wipe_0 : decode cX9_wipe 0 = .ok (.aload_n 0, 1) := by decide +kernel
theorem dX9_wipe_1 : decode cX9_wipe 1 = .ok (.getfield 86, 3) := by decide +kernel
theorem dX9_wipe_4 : decode cX9_wipe 4 = .ok (.istore_n 1, 1) := by decide +kernel
theorem dX9_wipe_5 : decode cX9_wipe 5 = .ok (.aload_n 0, 1) := by decide +kernel
theorem dX9_wipe_6 : decode cX9_wipe 6 = .ok (.iconst 0, 1) := by decide +kernel
theorem dX9_wipe_7 : decode cX9_wipe 7 = .ok (.putfield 86, 3) := by decide +kernel
theorem dX9_wipe_10 : decode cX9_wipe 10 = .ok (.iload_n 1, 1) := by decide +kernel
theorem dX9_wipe_11 : decode cX9_wipe 11 = .ok (.ireturn, 1) := by decide +kernel
theorem dX9_here_0 : decode cX9_here 0 = .ok (.aload_n 0, 1) := by decide +kernel
theorem dX9_here_1 : decode cX9_here 1 = .ok (.getfield 89, 3) := by decide +kernel
theorem dX9_here_4 : decode cX9_here 4 = .ok (.aload_n 0, 1) := by decide +kernel
theorem dX9_here_5 : decode cX9_here 5 = .ok (.getfield 86, 3) := by decide +kernel
theorem dX9_here_8 : decode cX9_here 8 = .ok (.if_icmp .ge 15, 3) := by decide +kernel
theorem dX9_here_11 : decode cX9_here 11 = .ok (.aload_n 0, 1) := by decide +kernel
theorem dX9_here_12 : decode cX9_here 12 = .ok (.getfield 31, 3) := by decide +kernel
theorem dX9_here_15 : decode cX9_here 15 = .ok (.aload_n 0, 1) := by decide +kernel
theorem dX9_here_16 : decode cX9_here 16 = .ok (.getfield 89, 3) := by decide +kernel
theorem dX9_here_19 : decode cX9_here 19 = .ok (.iaload, 1) := by decide +kernel
theorem dX9_here_20 : decode cX9_here 20 = .ok (.goto 4, 3) := by decide +kernel
theorem dX9_here_23 : decode cX9_here 23 = .ok (.iconst (-1), 1) := by decide +kernel
theorem dX9_here_24 : decode cX9_here 24 = .ok (.ireturn, 1) := by decide +kernel
theorem dX9_takes_0 : decode cX9_takes 0 = .ok (.aload_n 0, 1) := by decide +kernel
theorem dX9_takes_1 : decode cX9_takes 1 = .ok (.invokevirtual 92, 3) := by decide +kernel
theorem dX9_takes_4 : decode cX9_takes 4 = .ok (.iload_n 1, 1) := by decide +kernel
theorem dX9_takes_5 : decode cX9_takes 5 = .ok (.if_icmp .ne 7, 3) := by decide +kernel
theorem dX9_takes_8 : decode cX9_takes 8 = .ok (.iconst 1, 1) := by decide +kernel
theorem dX9_takes_9 : decode cX9_takes 9 = .ok (.goto 4, 3) := by decide +kernel
theorem dX9_takes_12 : decode cX9_takes 12 = .ok (.iconst 0, 1) := by decide +kernel
theorem dX9_takes_13 : decode cX9_takes 13 = .ok (.istore_n 2, 1) := by decide +kernel
theorem dX9_takes_14 : decode cX9_takes 14 = .ok (.aload_n 0, 1) := by decide +kernel
theorem dX9_takes_15 : decode cX9_takes 15 = .ok (.dup, 1) := by decide +kernel
theorem dX9_takes_16 : decode cX9_takes 16 = .ok (.getfield 89, 3) := by decide +kernel
theorem dX9_takes_19 : decode cX9_takes 19 = .ok (.iload_n 2, 1) := by decide +kernel
theorem dX9_takes_20 : decode cX9_takes 20 = .ok (.ifCond .eq 7, 3) := by decide +kernel
theorem dX9_takes_23 : decode cX9_takes 23 = .ok (.iconst 1, 1) := by decide +kernel
theorem dX9_takes_24 : decode cX9_takes 24 = .ok (.goto 4, 3) := by decide +kernel
theorem dX9_takes_27 : decode cX9_takes 27 = .ok (.iconst 0, 1) := by decide +kernel
theorem dX9_takes_28 : decode cX9_takes 28 = .ok (.iadd, 1) := by decide +kernel
theorem dX9_takes_29 : decode cX9_takes 29 = .ok (.putfield 89, 3) := by decide +kernel
theorem dX9_takes_32 : decode cX9_takes 32 = .ok (.iload_n 2, 1) := by decide +kernel
theorem dX9_takes_33 : decode cX9_takes 33 = .ok (.ireturn, 1) := by decide +kernel
theorem dX9_isFigure_0 : decode cX9_isFigure 0 = .ok (.iload_n 0, 1) := by decide +kernel
theorem dX9_isFigure_1 : decode cX9_isFigure 1 = .ok (.i2l, 1) := by decide +kernel
theorem dX9_isFigure_2 : decode cX9_isFigure 2 = .ok (.ldc2_w 96, 3) := by decide +kernel
theorem dX9_isFigure_5 : decode cX9_isFigure 5 = .ok (.ldc2_w 98, 3) := by decide +kernel
theorem dX9_isFigure_8 : decode cX9_isFigure 8 = .ok (.invokestatic 82, 3) := by decide +kernel
theorem dX9_isFigure_11 : decode cX9_isFigure 11 = .ok (.ireturn, 1) := by decide +kernel
theorem dX9_number_0 : decode cX9_number 0 = .ok (.aload_n 0, 1) := by decide +kernel
theorem dX9_number_1 : decode cX9_number 1 = .ok (.invokevirtual 92, 3) := by decide +kernel
theorem dX9_number_4 : decode cX9_number 4 = .ok (.invokestatic 100, 3) := by decide +kernel
theorem dX9_number_7 : decode cX9_number 7 = .ok (.ifCond .ne 5, 3) := by decide +kernel
theorem dX9_number_10 : decode cX9_number 10 = .ok (.iconst 0, 1) := by decide +kernel
theorem dX9_number_11 : decode cX9_number 11 = .ok (.ireturn, 1) := by decide +kernel
theorem dX9_number_12 : decode cX9_number 12 = .ok (.aload_n 0, 1) := by decide +kernel
theorem dX9_number_13 : decode cX9_number 13 = .ok (.aload_n 0, 1) := by decide +kernel
theorem dX9_number_14 : decode cX9_number 14 = .ok (.invokevirtual 92, 3) := by decide +kernel
theorem dX9_number_17 : decode cX9_number 17 = .ok (.bipush 48, 2) := by decide +kernel
theorem dX9_number_19 : decode cX9_number 19 = .ok (.isub, 1) := by decide +kernel
theorem dX9_number_20 : decode cX9_number 20 = .ok (.putfield 104, 3) := by decide +kernel
theorem dX9_number_23 : decode cX9_number 23 = .ok (.aload_n 0, 1) := by decide +kernel
theorem dX9_number_24 : decode cX9_number 24 = .ok (.dup, 1) := by decide +kernel
theorem dX9_number_25 : decode cX9_number 25 = .ok (.getfield 89, 3) := by decide +kernel
theorem dX9_number_28 : decode cX9_number 28 = .ok (.iconst 1, 1) := by decide +kernel
theorem dX9_number_29 : decode cX9_number 29 = .ok (.iadd, 1) := by decide +kernel
theorem dX9_number_30 : decode cX9_number 30 = .ok (.putfield 89, 3) := by decide +kernel
theorem dX9_number_33 : decode cX9_number 33 = .ok (.aload_n 0, 1) := by decide +kernel
theorem dX9_number_34 : decode cX9_number 34 = .ok (.invokevirtual 92, 3) := by decide +kernel
theorem dX9_number_37 : decode cX9_number 37 = .ok (.invokestatic 100, 3) := by decide +kernel
theorem dX9_number_40 : decode cX9_number 40 = .ok (.ifCond .eq 32, 3) := by decide +kernel
theorem dX9_number_43 : decode cX9_number 43 = .ok (.aload_n 0, 1) := by decide +kernel
theorem dX9_number_44 : decode cX9_number 44 = .ok (.bipush 10, 2) := by decide +kernel
theorem dX9_number_46 : decode cX9_number 46 = .ok (.aload_n 0, 1) := by decide +kernel
theorem dX9_number_47 : decode cX9_number 47 = .ok (.getfield 104, 3) := by decide +kernel
theorem dX9_number_50 : decode cX9_number 50 = .ok (.imul, 1) := by decide +kernel
theorem dX9_number_51 : decode cX9_number 51 = .ok (.aload_n 0, 1) := by decide +kernel
theorem dX9_number_52 : decode cX9_number 52 = .ok (.invokevirtual 92, 3) := by decide +kernel
theorem dX9_number_55 : decode cX9_number 55 = .ok (.iadd, 1) := by decide +kernel
theorem dX9_number_56 : decode cX9_number 56 = .ok (.bipush 48, 2) := by decide +kernel
theorem dX9_number_58 : decode cX9_number 58 = .ok (.isub, 1) := by decide +kernel
theorem dX9_number_59 : decode cX9_number 59 = .ok (.putfield 104, 3) := by decide +kernel
theorem dX9_number_62 : decode cX9_number 62 = .ok (.aload_n 0, 1) := by decide +kernel
theorem dX9_number_63 : decode cX9_number 63 = .ok (.dup, 1) := by decide +kernel
theorem dX9_number_64 : decode cX9_number 64 = .ok (.getfield 89, 3) := by decide +kernel
theorem dX9_number_67 : decode cX9_number 67 = .ok (.iconst 1, 1) := by decide +kernel
theorem dX9_number_68 : decode cX9_number 68 = .ok (.iadd, 1) := by decide +kernel
theorem dX9_number_69 : decode cX9_number 69 = .ok (.putfield 89, 3) := by decide +kernel
theorem dX9_number_72 : decode cX9_number 72 = .ok (.aload_n 0, 1) := by decide +kernel
theorem dX9_number_73 : decode cX9_number 73 = .ok (.getfield 104, 3) := by decide +kernel
theorem dX9_number_76 : decode cX9_number 76 = .ok (.i2l, 1) := by decide +kernel
theorem dX9_number_77 : decode cX9_number 77 = .ok (.iload_n 1, 1) := by decide +kernel
theorem dX9_number_78 : decode cX9_number 78 = .ok (.i2l, 1) := by decide +kernel
theorem dX9_number_79 : decode cX9_number 79 = .ok (.iload_n 2, 1) := by decide +kernel
theorem dX9_number_80 : decode cX9_number 80 = .ok (.i2l, 1) := by decide +kernel
theorem dX9_number_81 : decode cX9_number 81 = .ok (.invokestatic 82, 3) := by decide +kernel
theorem dX9_number_84 : decode cX9_number 84 = .ok (.ireturn, 1) := by decide +kernel
theorem dX9_readsWord_0 : decode cX9_readsWord 0 = .ok (.aload_n 0, 1) := by decide +kernel
theorem dX9_readsWord_1 : decode cX9_readsWord 1 = .ok (.getfield 13, 3) := by decide +kernel
theorem dX9_readsWord_4 : decode cX9_readsWord 4 = .ok (.iconst 0, 1) := by decide +kernel
theorem dX9_readsWord_5 : decode cX9_readsWord 5 = .ok (.iaload, 1) := by decide +kernel
theorem dX9_readsWord_6 : decode cX9_readsWord 6 = .ok (.bipush 8, 2) := by decide +kernel
theorem dX9_readsWord_8 : decode cX9_readsWord 8 = .ok (.if_icmp .eq 13, 3) := by decide +kernel
theorem dX9_readsWord_11 : decode cX9_readsWord 11 = .ok (.aload_n 0, 1) := by decide +kernel
theorem dX9_readsWord_12 : decode cX9_readsWord 12 = .ok (.iconst 1, 1) := by decide +kernel
theorem dX9_readsWord_13 : decode cX9_readsWord 13 = .ok (.bipush 9, 2) := by decide +kernel
theorem dX9_readsWord_15 : decode cX9_readsWord 15 = .ok (.invokevirtual 107, 3) := by decide +kernel
theorem dX9_readsWord_18 : decode cX9_readsWord 18 = .ok (.ifCond .ne 5, 3) := by decide +kernel
theorem dX9_readsWord_21 : decode cX9_readsWord 21 = .ok (.iconst 0, 1) := by decide +kernel
theorem dX9_readsWord_22 : decode cX9_readsWord 22 = .ok (.ireturn, 1) := by decide +kernel
theorem dX9_readsWord_23 : decode cX9_readsWord 23 = .ok (.aload_n 0, 1) := by decide +kernel
theorem dX9_readsWord_24 : decode cX9_readsWord 24 = .ok (.getfield 104, 3) := by decide +kernel
theorem dX9_readsWord_27 : decode cX9_readsWord 27 = .ok (.istore_n 1, 1) := by decide +kernel
theorem dX9_readsWord_28 : decode cX9_readsWord 28 = .ok (.iconst 0, 1) := by decide +kernel
theorem dX9_readsWord_29 : decode cX9_readsWord 29 = .ok (.istore_n 2, 1) := by decide +kernel
theorem dX9_readsWord_30 : decode cX9_readsWord 30 = .ok (.iconst 0, 1) := by decide +kernel
theorem dX9_readsWord_31 : decode cX9_readsWord 31 = .ok (.istore_n 3, 1) := by decide +kernel
theorem dX9_readsWord_32 : decode cX9_readsWord 32 = .ok (.aload_n 0, 1) := by decide +kernel
theorem dX9_readsWord_33 : decode cX9_readsWord 33 = .ok (.bipush 44, 2) := by decide +kernel
theorem dX9_readsWord_35 : decode cX9_readsWord 35 = .ok (.invokevirtual 111, 3) := by decide +kernel
theorem dX9_readsWord_38 : decode cX9_readsWord 38 = .ok (.ifCond .ne 5, 3) := by decide +kernel
theorem dX9_readsWord_41 : decode cX9_readsWord 41 = .ok (.iconst 0, 1) := by decide +kernel
theorem dX9_readsWord_42 : decode cX9_readsWord 42 = .ok (.ireturn, 1) := by decide +kernel
theorem dX9_readsWord_43 : decode cX9_readsWord 43 = .ok (.aload_n 0, 1) := by decide +kernel
theorem dX9_readsWord_44 : decode cX9_readsWord 44 = .ok (.invokevirtual 92, 3) := by decide +kernel
theorem dX9_readsWord_47 : decode cX9_readsWord 47 = .ok (.i2l, 1) := by decide +kernel
theorem dX9_readsWord_48 : decode cX9_readsWord 48 = .ok (.ldc2_w 114, 3) := by decide +kernel
theorem dX9_readsWord_51 : decode cX9_readsWord 51 = .ok (.ldc2_w 116, 3) := by decide +kernel
theorem dX9_readsWord_54 : decode cX9_readsWord 54 = .ok (.invokestatic 82, 3) := by decide +kernel
theorem dX9_readsWord_57 : decode cX9_readsWord 57 = .ok (.ifCond .eq 36, 3) := by decide +kernel
theorem dX9_readsWord_60 : decode cX9_readsWord 60 = .ok (.iload_n 2, 1) := by decide +kernel
theorem dX9_readsWord_61 : decode cX9_readsWord 61 = .ok (.iconst 4, 1) := by decide +kernel
theorem dX9_readsWord_62 : decode cX9_readsWord 62 = .ok (.if_icmp .ge 31, 3) := by decide +kernel
theorem dX9_readsWord_65 : decode cX9_readsWord 65 = .ok (.iload_n 3, 1) := by decide +kernel
theorem dX9_readsWord_66 : decode cX9_readsWord 66 = .ok (.iconst 1, 1) := by decide +kernel
theorem dX9_readsWord_67 : decode cX9_readsWord 67 = .ok (.aload_n 0, 1) := by decide +kernel
theorem dX9_readsWord_68 : decode cX9_readsWord 68 = .ok (.invokevirtual 92, 3) := by decide +kernel
theorem dX9_readsWord_71 : decode cX9_readsWord 71 = .ok (.bipush 97, 2) := by decide +kernel
theorem dX9_readsWord_73 : decode cX9_readsWord 73 = .ok (.isub, 1) := by decide +kernel
theorem dX9_readsWord_74 : decode cX9_readsWord 74 = .ok (.ishl, 1) := by decide +kernel
theorem dX9_readsWord_75 : decode cX9_readsWord 75 = .ok (.ior, 1) := by decide +kernel
theorem dX9_readsWord_76 : decode cX9_readsWord 76 = .ok (.istore_n 3, 1) := by decide +kernel
theorem dX9_readsWord_77 : decode cX9_readsWord 77 = .ok (.iinc 2 1, 3) := by decide +kernel
theorem dX9_readsWord_80 : decode cX9_readsWord 80 = .ok (.aload_n 0, 1) := by decide +kernel
theorem dX9_readsWord_81 : decode cX9_readsWord 81 = .ok (.dup, 1) := by decide +kernel
theorem dX9_readsWord_82 : decode cX9_readsWord 82 = .ok (.getfield 89, 3) := by decide +kernel
theorem dX9_readsWord_85 : decode cX9_readsWord 85 = .ok (.iconst 1, 1) := by decide +kernel
theorem dX9_readsWord_86 : decode cX9_readsWord 86 = .ok (.iadd, 1) := by decide +kernel
theorem dX9_readsWord_87 : decode cX9_readsWord 87 = .ok (.putfield 89, 3) := by decide +kernel
theorem dX9_readsWord_90 : decode cX9_readsWord 90 = .ok (.goto (-47), 3) := by decide +kernel
theorem dX9_readsWord_93 : decode cX9_readsWord 93 = .ok (.iload_n 2, 1) := by decide +kernel
theorem dX9_readsWord_94 : decode cX9_readsWord 94 = .ok (.i2l, 1) := by decide +kernel
theorem dX9_readsWord_95 : decode cX9_readsWord 95 = .ok (.lconst 1, 1) := by decide +kernel
theorem dX9_readsWord_96 : decode cX9_readsWord 96 = .ok (.ldc2_w 118, 3) := by decide +kernel
theorem dX9_readsWord_99 : decode cX9_readsWord 99 = .ok (.invokestatic 82, 3) := by decide +kernel
theorem dX9_readsWord_102 : decode cX9_readsWord 102 = .ok (.ifCond .ne 5, 3) := by decide +kernel
theorem dX9_readsWord_105 : decode cX9_readsWord 105 = .ok (.iconst 0, 1) := by decide +kernel
theorem dX9_readsWord_106 : decode cX9_readsWord 106 = .ok (.ireturn, 1) := by decide +kernel
theorem dX9_readsWord_107 : decode cX9_readsWord 107 = .ok (.aload_n 0, 1) := by decide +kernel
theorem dX9_readsWord_108 : decode cX9_readsWord 108 = .ok (.getfield 13, 3) := by decide +kernel
theorem dX9_readsWord_111 : decode cX9_readsWord 111 = .ok (.iload_n 1, 1) := by decide +kernel
theorem dX9_readsWord_112 : decode cX9_readsWord 112 = .ok (.iload_n 2, 1) := by decide +kernel
theorem dX9_readsWord_113 : decode cX9_readsWord 113 = .ok (.iload_n 3, 1) := by decide +kernel
theorem dX9_readsWord_114 : decode cX9_readsWord 114 = .ok (.invokestatic 58, 3) := by decide +kernel
theorem dX9_readsWord_117 : decode cX9_readsWord 117 = .ok (.iconst 1, 1) := by decide +kernel
theorem dX9_readsWord_118 : decode cX9_readsWord 118 = .ok (.ireturn, 1) := by decide +kernel
theorem dX9_readsLikeness_0 : decode cX9_readsLikeness 0 = .ok (.iconst 0, 1) := by decide +kernel
theorem dX9_readsLikeness_1 : decode cX9_readsLikeness 1 = .ok (.istore_n 1, 1) := by decide +kernel
theorem dX9_readsLikeness_2 : decode cX9_readsLikeness 2 = .ok (.aload_n 0, 1) := by decide +kernel
theorem dX9_readsLikeness_3 : decode cX9_readsLikeness 3 = .ok (.invokevirtual 92, 3) := by decide +kernel
theorem dX9_readsLikeness_6 : decode cX9_readsLikeness 6 = .ok (.invokestatic 100, 3) := by decide +kernel
theorem dX9_readsLikeness_9 : decode cX9_readsLikeness 9 = .ok (.ifCond .eq 50, 3) := by decide +kernel
theorem dX9_readsLikeness_12 : decode cX9_readsLikeness 12 = .ok (.aload_n 0, 1) := by decide +kernel
theorem dX9_readsLikeness_13 : decode cX9_readsLikeness 13 = .ok (.invokevirtual 92, 3) := by decide +kernel
theorem dX9_readsLikeness_16 : decode cX9_readsLikeness 16 = .ok (.bipush 48, 2) := by decide +kernel
theorem dX9_readsLikeness_18 : decode cX9_readsLikeness 18 = .ok (.isub, 1) := by decide +kernel
theorem dX9_readsLikeness_19 : decode cX9_readsLikeness 19 = .ok (.istore_n 2, 1) := by decide +kernel
theorem dX9_readsLikeness_20 : decode cX9_readsLikeness 20 = .ok (.iload_n 2, 1) := by decide +kernel
theorem dX9_readsLikeness_21 : decode cX9_readsLikeness 21 = .ok (.aload_n 0, 1) := by decide +kernel
theorem dX9_readsLikeness_22 : decode cX9_readsLikeness 22 = .ok (.getfield 13, 3) := by decide +kernel
theorem dX9_readsLikeness_25 : decode cX9_readsLikeness 25 = .ok (.iconst 0, 1) := by decide +kernel
theorem dX9_readsLikeness_26 : decode cX9_readsLikeness 26 = .ok (.iaload, 1) := by decide +kernel
theorem dX9_readsLikeness_27 : decode cX9_readsLikeness 27 = .ok (.if_icmp .ge 11, 3) := by decide +kernel
theorem dX9_readsLikeness_30 : decode cX9_readsLikeness 30 = .ok (.iload_n 1, 1) := by decide +kernel
theorem dX9_readsLikeness_31 : decode cX9_readsLikeness 31 = .ok (.iload_n 2, 1) := by decide +kernel
theorem dX9_readsLikeness_32 : decode cX9_readsLikeness 32 = .ok (.invokestatic 120, 3) := by decide +kernel
theorem dX9_readsLikeness_35 : decode cX9_readsLikeness 35 = .ok (.ifCond .eq 5, 3) := by decide +kernel
theorem dX9_readsLikeness_38 : decode cX9_readsLikeness 38 = .ok (.iconst 0, 1) := by decide +kernel
theorem dX9_readsLikeness_39 : decode cX9_readsLikeness 39 = .ok (.ireturn, 1) := by decide +kernel
theorem dX9_readsLikeness_40 : decode cX9_readsLikeness 40 = .ok (.iload_n 1, 1) := by decide +kernel
theorem dX9_readsLikeness_41 : decode cX9_readsLikeness 41 = .ok (.iconst 1, 1) := by decide +kernel
theorem dX9_readsLikeness_42 : decode cX9_readsLikeness 42 = .ok (.iload_n 2, 1) := by decide +kernel
theorem dX9_readsLikeness_43 : decode cX9_readsLikeness 43 = .ok (.ishl, 1) := by decide +kernel
theorem dX9_readsLikeness_44 : decode cX9_readsLikeness 44 = .ok (.ior, 1) := by decide +kernel
theorem dX9_readsLikeness_45 : decode cX9_readsLikeness 45 = .ok (.istore_n 1, 1) := by decide +kernel
theorem dX9_readsLikeness_46 : decode cX9_readsLikeness 46 = .ok (.aload_n 0, 1) := by decide +kernel
theorem dX9_readsLikeness_47 : decode cX9_readsLikeness 47 = .ok (.dup, 1) := by decide +kernel
theorem dX9_readsLikeness_48 : decode cX9_readsLikeness 48 = .ok (.getfield 89, 3) := by decide +kernel
theorem dX9_readsLikeness_51 : decode cX9_readsLikeness 51 = .ok (.iconst 1, 1) := by decide +kernel
theorem dX9_readsLikeness_52 : decode cX9_readsLikeness 52 = .ok (.iadd, 1) := by decide +kernel
theorem dX9_readsLikeness_53 : decode cX9_readsLikeness 53 = .ok (.putfield 89, 3) := by decide +kernel
theorem dX9_readsLikeness_56 : decode cX9_readsLikeness 56 = .ok (.goto (-54), 3) := by decide +kernel
theorem dX9_readsLikeness_59 : decode cX9_readsLikeness 59 = .ok (.iload_n 1, 1) := by decide +kernel
theorem dX9_readsLikeness_60 : decode cX9_readsLikeness 60 = .ok (.ifCond .eq 14, 3) := by decide +kernel
theorem dX9_readsLikeness_63 : decode cX9_readsLikeness 63 = .ok (.aload_n 0, 1) := by decide +kernel
theorem dX9_readsLikeness_64 : decode cX9_readsLikeness 64 = .ok (.getfield 13, 3) := by decide +kernel
theorem dX9_readsLikeness_67 : decode cX9_readsLikeness 67 = .ok (.iconst 1, 1) := by decide +kernel
theorem dX9_readsLikeness_68 : decode cX9_readsLikeness 68 = .ok (.iaload, 1) := by decide +kernel
theorem dX9_readsLikeness_69 : decode cX9_readsLikeness 69 = .ok (.bipush 6, 2) := by decide +kernel
theorem dX9_readsLikeness_71 : decode cX9_readsLikeness 71 = .ok (.if_icmp .ne 5, 3) := by decide +kernel
theorem dX9_readsLikeness_74 : decode cX9_readsLikeness 74 = .ok (.iconst 0, 1) := by decide +kernel
theorem dX9_readsLikeness_75 : decode cX9_readsLikeness 75 = .ok (.ireturn, 1) := by decide +kernel
theorem dX9_readsLikeness_76 : decode cX9_readsLikeness 76 = .ok (.aload_n 0, 1) := by decide +kernel
theorem dX9_readsLikeness_77 : decode cX9_readsLikeness 77 = .ok (.getfield 13, 3) := by decide +kernel
theorem dX9_readsLikeness_80 : decode cX9_readsLikeness 80 = .ok (.bipush 31, 2) := by decide +kernel
theorem dX9_readsLikeness_82 : decode cX9_readsLikeness 82 = .ok (.aload_n 0, 1) := by decide +kernel
theorem dX9_readsLikeness_83 : decode cX9_readsLikeness 83 = .ok (.getfield 13, 3) := by decide +kernel
theorem dX9_readsLikeness_86 : decode cX9_readsLikeness 86 = .ok (.iconst 1, 1) := by decide +kernel
theorem dX9_readsLikeness_87 : decode cX9_readsLikeness 87 = .ok (.iaload, 1) := by decide +kernel
theorem dX9_readsLikeness_88 : decode cX9_readsLikeness 88 = .ok (.iadd, 1) := by decide +kernel
theorem dX9_readsLikeness_89 : decode cX9_readsLikeness 89 = .ok (.iload_n 1, 1) := by decide +kernel
theorem dX9_readsLikeness_90 : decode cX9_readsLikeness 90 = .ok (.iastore, 1) := by decide +kernel
theorem dX9_readsLikeness_91 : decode cX9_readsLikeness 91 = .ok (.aload_n 0, 1) := by decide +kernel
theorem dX9_readsLikeness_92 : decode cX9_readsLikeness 92 = .ok (.getfield 13, 3) := by decide +kernel
theorem dX9_readsLikeness_95 : decode cX9_readsLikeness 95 = .ok (.iconst 1, 1) := by decide +kernel
theorem dX9_readsLikeness_96 : decode cX9_readsLikeness 96 = .ok (.dup2, 1) := by decide +kernel
theorem dX9_readsLikeness_97 : decode cX9_readsLikeness 97 = .ok (.iaload, 1) := by decide +kernel
theorem dX9_readsLikeness_98 : decode cX9_readsLikeness 98 = .ok (.iconst 1, 1) := by decide +kernel
theorem dX9_readsLikeness_99 : decode cX9_readsLikeness 99 = .ok (.iadd, 1) := by decide +kernel
theorem dX9_readsLikeness_100 : decode cX9_readsLikeness 100 = .ok (.iastore, 1) := by decide +kernel
theorem dX9_readsLikeness_101 : decode cX9_readsLikeness 101 = .ok (.iconst 1, 1) := by decide +kernel
theorem dX9_readsLikeness_102 : decode cX9_readsLikeness 102 = .ok (.ireturn, 1) := by decide +kernel
theorem dX9_readsActor_0 : decode cX9_readsActor 0 = .ok (.aload_n 0, 1) := by decide +kernel
theorem dX9_readsActor_1 : decode cX9_readsActor 1 = .ok (.getfield 13, 3) := by decide +kernel
theorem dX9_readsActor_4 : decode cX9_readsActor 4 = .ok (.iconst 2, 1) := by decide +kernel
theorem dX9_readsActor_5 : decode cX9_readsActor 5 = .ok (.iaload, 1) := by decide +kernel
theorem dX9_readsActor_6 : decode cX9_readsActor 6 = .ok (.iconst 5, 1) := by decide +kernel
theorem dX9_readsActor_7 : decode cX9_readsActor 7 = .ok (.if_icmp .eq 21, 3) := by decide +kernel
theorem dX9_readsActor_10 : decode cX9_readsActor 10 = .ok (.aload_n 0, 1) := by decide +kernel
theorem dX9_readsActor_11 : decode cX9_readsActor 11 = .ok (.iconst 0, 1) := by decide +kernel
theorem dX9_readsActor_12 : decode cX9_readsActor 12 = .ok (.iconst 3, 1) := by decide +kernel
theorem dX9_readsActor_13 : decode cX9_readsActor 13 = .ok (.invokevirtual 107, 3) := by decide +kernel
theorem dX9_readsActor_16 : decode cX9_readsActor 16 = .ok (.ifCond .eq 12, 3) := by decide +kernel
theorem dX9_readsActor_19 : decode cX9_readsActor 19 = .ok (.aload_n 0, 1) := by decide +kernel
theorem dX9_readsActor_20 : decode cX9_readsActor 20 = .ok (.bipush 44, 2) := by decide +kernel
theorem dX9_readsActor_22 : decode cX9_readsActor 22 = .ok (.invokevirtual 111, 3) := by decide +kernel
theorem dX9_readsActor_25 : decode cX9_readsActor 25 = .ok (.ifCond .ne 5, 3) := by decide +kernel
theorem dX9_readsActor_28 : decode cX9_readsActor 28 = .ok (.iconst 0, 1) := by decide +kernel
theorem dX9_readsActor_29 : decode cX9_readsActor 29 = .ok (.ireturn, 1) := by decide +kernel
theorem dX9_readsActor_30 : decode cX9_readsActor 30 = .ok (.aload_n 0, 1) := by decide +kernel
theorem dX9_readsActor_31 : decode cX9_readsActor 31 = .ok (.getfield 104, 3) := by decide +kernel
theorem dX9_readsActor_34 : decode cX9_readsActor 34 = .ok (.istore_n 1, 1) := by decide +kernel
theorem dX9_readsActor_35 : decode cX9_readsActor 35 = .ok (.aload_n 0, 1) := by decide +kernel
theorem dX9_readsActor_36 : decode cX9_readsActor 36 = .ok (.iconst 0, 1) := by decide +kernel
theorem dX9_readsActor_37 : decode cX9_readsActor 37 = .ok (.aload_n 0, 1) := by decide +kernel
theorem dX9_readsActor_38 : decode cX9_readsActor 38 = .ok (.getfield 13, 3) := by decide +kernel
theorem dX9_readsActor_41 : decode cX9_readsActor 41 = .ok (.iconst 0, 1) := by decide +kernel
theorem dX9_readsActor_42 : decode cX9_readsActor 42 = .ok (.iaload, 1) := by decide +kernel
theorem dX9_readsActor_43 : decode cX9_readsActor 43 = .ok (.iconst 1, 1) := by decide +kernel
theorem dX9_readsActor_44 : decode cX9_readsActor 44 = .ok (.isub, 1) := by decide +kernel
theorem dX9_readsActor_45 : decode cX9_readsActor 45 = .ok (.invokevirtual 107, 3) := by decide +kernel
theorem dX9_readsActor_48 : decode cX9_readsActor 48 = .ok (.ifCond .eq 12, 3) := by decide +kernel
theorem dX9_readsActor_51 : decode cX9_readsActor 51 = .ok (.aload_n 0, 1) := by decide +kernel
theorem dX9_readsActor_52 : decode cX9_readsActor 52 = .ok (.bipush 44, 2) := by decide +kernel
theorem dX9_readsActor_54 : decode cX9_readsActor 54 = .ok (.invokevirtual 111, 3) := by decide +kernel
theorem dX9_readsActor_57 : decode cX9_readsActor 57 = .ok (.ifCond .ne 5, 3) := by decide +kernel
theorem dX9_readsActor_60 : decode cX9_readsActor 60 = .ok (.iconst 0, 1) := by decide +kernel
theorem dX9_readsActor_61 : decode cX9_readsActor 61 = .ok (.ireturn, 1) := by decide +kernel
theorem dX9_readsActor_62 : decode cX9_readsActor 62 = .ok (.aload_n 0, 1) := by decide +kernel
theorem dX9_readsActor_63 : decode cX9_readsActor 63 = .ok (.getfield 104, 3) := by decide +kernel
theorem dX9_readsActor_66 : decode cX9_readsActor 66 = .ok (.istore_n 2, 1) := by decide +kernel
theorem dX9_readsActor_67 : decode cX9_readsActor 67 = .ok (.aload_n 0, 1) := by decide +kernel
theorem dX9_readsActor_68 : decode cX9_readsActor 68 = .ok (.iconst 0, 1) := by decide +kernel
theorem dX9_readsActor_69 : decode cX9_readsActor 69 = .ok (.bipush 99, 2) := by decide +kernel
theorem dX9_readsActor_71 : decode cX9_readsActor 71 = .ok (.invokevirtual 107, 3) := by decide +kernel
theorem dX9_readsActor_74 : decode cX9_readsActor 74 = .ok (.ifCond .ne 5, 3) := by decide +kernel
theorem dX9_readsActor_77 : decode cX9_readsActor 77 = .ok (.iconst 0, 1) := by decide +kernel
theorem dX9_readsActor_78 : decode cX9_readsActor 78 = .ok (.ireturn, 1) := by decide +kernel
theorem dX9_readsActor_79 : decode cX9_readsActor 79 = .ok (.aload_n 0, 1) := by decide +kernel
theorem dX9_readsActor_80 : decode cX9_readsActor 80 = .ok (.getfield 13, 3) := by decide +kernel
theorem dX9_readsActor_83 : decode cX9_readsActor 83 = .ok (.iload_n 1, 1) := by decide +kernel
theorem dX9_readsActor_84 : decode cX9_readsActor 84 = .ok (.iload_n 2, 1) := by decide +kernel
theorem dX9_readsActor_85 : decode cX9_readsActor 85 = .ok (.aload_n 0, 1) := by decide +kernel
theorem dX9_readsActor_86 : decode cX9_readsActor 86 = .ok (.getfield 104, 3) := by decide +kernel
theorem dX9_readsActor_89 : decode cX9_readsActor 89 = .ok (.invokestatic 62, 3) := by decide +kernel
theorem dX9_readsActor_92 : decode cX9_readsActor 92 = .ok (.iconst 1, 1) := by decide +kernel
theorem dX9_readsActor_93 : decode cX9_readsActor 93 = .ok (.ireturn, 1) := by decide +kernel
theorem dX9_readsBarred_0 : decode cX9_readsBarred 0 = .ok (.aload_n 0, 1) := by decide +kernel
theorem dX9_readsBarred_1 : decode cX9_readsBarred 1 = .ok (.iconst 0, 1) := by decide +kernel
theorem dX9_readsBarred_2 : decode cX9_readsBarred 2 = .ok (.bipush 14, 2) := by decide +kernel
theorem dX9_readsBarred_4 : decode cX9_readsBarred 4 = .ok (.invokevirtual 107, 3) := by decide +kernel
theorem dX9_readsBarred_7 : decode cX9_readsBarred 7 = .ok (.ifCond .ne 5, 3) := by decide +kernel
theorem dX9_readsBarred_10 : decode cX9_readsBarred 10 = .ok (.iconst 0, 1) := by decide +kernel
theorem dX9_readsBarred_11 : decode cX9_readsBarred 11 = .ok (.ireturn, 1) := by decide +kernel
theorem dX9_readsBarred_12 : decode cX9_readsBarred 12 = .ok (.aload_n 0, 1) := by decide +kernel
theorem dX9_readsBarred_13 : decode cX9_readsBarred 13 = .ok (.getfield 13, 3) := by decide +kernel
theorem dX9_readsBarred_16 : decode cX9_readsBarred 16 = .ok (.iconst 3, 1) := by decide +kernel
theorem dX9_readsBarred_17 : decode cX9_readsBarred 17 = .ok (.dup2, 1) := by decide +kernel
theorem dX9_readsBarred_18 : decode cX9_readsBarred 18 = .ok (.iaload, 1) := by decide +kernel
theorem dX9_readsBarred_19 : decode cX9_readsBarred 19 = .ok (.iconst 1, 1) := by decide +kernel
theorem dX9_readsBarred_20 : decode cX9_readsBarred 20 = .ok (.aload_n 0, 1) := by decide +kernel
theorem dX9_readsBarred_21 : decode cX9_readsBarred 21 = .ok (.getfield 104, 3) := by decide +kernel
theorem dX9_readsBarred_24 : decode cX9_readsBarred 24 = .ok (.ishl, 1) := by decide +kernel
theorem dX9_readsBarred_25 : decode cX9_readsBarred 25 = .ok (.ior, 1) := by decide +kernel
theorem dX9_readsBarred_26 : decode cX9_readsBarred 26 = .ok (.iastore, 1) := by decide +kernel
theorem dX9_readsBarred_27 : decode cX9_readsBarred 27 = .ok (.iconst 1, 1) := by decide +kernel
theorem dX9_readsBarred_28 : decode cX9_readsBarred 28 = .ok (.ireturn, 1) := by decide +kernel
theorem dX9_readsHabits_0 : decode cX9_readsHabits 0 = .ok (.aload_n 0, 1) := by decide +kernel
theorem dX9_readsHabits_1 : decode cX9_readsHabits 1 = .ok (.iconst 2, 1) := by decide +kernel
theorem dX9_readsHabits_2 : decode cX9_readsHabits 2 = .ok (.iconst 5, 1) := by decide +kernel
theorem dX9_readsHabits_3 : decode cX9_readsHabits 3 = .ok (.invokevirtual 107, 3) := by decide +kernel
theorem dX9_readsHabits_6 : decode cX9_readsHabits 6 = .ok (.ifCond .eq 12, 3) := by decide +kernel
theorem dX9_readsHabits_9 : decode cX9_readsHabits 9 = .ok (.aload_n 0, 1) := by decide +kernel
theorem dX9_readsHabits_10 : decode cX9_readsHabits 10 = .ok (.bipush 44, 2) := by decide +kernel
theorem dX9_readsHabits_12 : decode cX9_readsHabits 12 = .ok (.invokevirtual 111, 3) := by decide +kernel
theorem dX9_readsHabits_15 : decode cX9_readsHabits 15 = .ok (.ifCond .ne 5, 3) := by decide +kernel
theorem dX9_readsHabits_18 : decode cX9_readsHabits 18 = .ok (.iconst 0, 1) := by decide +kernel
theorem dX9_readsHabits_19 : decode cX9_readsHabits 19 = .ok (.ireturn, 1) := by decide +kernel
theorem dX9_readsHabits_20 : decode cX9_readsHabits 20 = .ok (.aload_n 0, 1) := by decide +kernel
theorem dX9_readsHabits_21 : decode cX9_readsHabits 21 = .ok (.getfield 13, 3) := by decide +kernel
theorem dX9_readsHabits_24 : decode cX9_readsHabits 24 = .ok (.iconst 4, 1) := by decide +kernel
theorem dX9_readsHabits_25 : decode cX9_readsHabits 25 = .ok (.aload_n 0, 1) := by decide +kernel
theorem dX9_readsHabits_26 : decode cX9_readsHabits 26 = .ok (.getfield 104, 3) := by decide +kernel
theorem dX9_readsHabits_29 : decode cX9_readsHabits 29 = .ok (.iastore, 1) := by decide +kernel
theorem dX9_readsHabits_30 : decode cX9_readsHabits 30 = .ok (.aload_n 0, 1) := by decide +kernel
theorem dX9_readsHabits_31 : decode cX9_readsHabits 31 = .ok (.iconst 1, 1) := by decide +kernel
theorem dX9_readsHabits_32 : decode cX9_readsHabits 32 = .ok (.iconst 4, 1) := by decide +kernel
theorem dX9_readsHabits_33 : decode cX9_readsHabits 33 = .ok (.invokevirtual 107, 3) := by decide +kernel
theorem dX9_readsHabits_36 : decode cX9_readsHabits 36 = .ok (.ifCond .ne 5, 3) := by decide +kernel
theorem dX9_readsHabits_39 : decode cX9_readsHabits 39 = .ok (.iconst 0, 1) := by decide +kernel
theorem dX9_readsHabits_40 : decode cX9_readsHabits 40 = .ok (.ireturn, 1) := by decide +kernel
theorem dX9_readsHabits_41 : decode cX9_readsHabits 41 = .ok (.aload_n 0, 1) := by decide +kernel
theorem dX9_readsHabits_42 : decode cX9_readsHabits 42 = .ok (.getfield 13, 3) := by decide +kernel
theorem dX9_readsHabits_45 : decode cX9_readsHabits 45 = .ok (.iconst 5, 1) := by decide +kernel
theorem dX9_readsHabits_46 : decode cX9_readsHabits 46 = .ok (.aload_n 0, 1) := by decide +kernel
theorem dX9_readsHabits_47 : decode cX9_readsHabits 47 = .ok (.getfield 104, 3) := by decide +kernel
theorem dX9_readsHabits_50 : decode cX9_readsHabits 50 = .ok (.iastore, 1) := by decide +kernel
theorem dX9_readsHabits_51 : decode cX9_readsHabits 51 = .ok (.iconst 1, 1) := by decide +kernel
theorem dX9_readsHabits_52 : decode cX9_readsHabits 52 = .ok (.ireturn, 1) := by decide +kernel
theorem dX9_readsCost_0 : decode cX9_readsCost 0 = .ok (.aload_n 0, 1) := by decide +kernel
theorem dX9_readsCost_1 : decode cX9_readsCost 1 = .ok (.iconst 0, 1) := by decide +kernel
theorem dX9_readsCost_2 : decode cX9_readsCost 2 = .ok (.bipush 9, 2) := by decide +kernel
theorem dX9_readsCost_4 : decode cX9_readsCost 4 = .ok (.invokevirtual 107, 3) := by decide +kernel
theorem dX9_readsCost_7 : decode cX9_readsCost 7 = .ok (.ifCond .ne 5, 3) := by decide +kernel
theorem dX9_readsCost_10 : decode cX9_readsCost 10 = .ok (.iconst 0, 1) := by decide +kernel
theorem dX9_readsCost_11 : decode cX9_readsCost 11 = .ok (.ireturn, 1) := by decide +kernel
theorem dX9_readsCost_12 : decode cX9_readsCost 12 = .ok (.aload_n 0, 1) := by decide +kernel
theorem dX9_readsCost_13 : decode cX9_readsCost 13 = .ok (.getfield 13, 3) := by decide +kernel
theorem dX9_readsCost_16 : decode cX9_readsCost 16 = .ok (.bipush 6, 2) := by decide +kernel
theorem dX9_readsCost_18 : decode cX9_readsCost 18 = .ok (.aload_n 0, 1) := by decide +kernel
theorem dX9_readsCost_19 : decode cX9_readsCost 19 = .ok (.getfield 104, 3) := by decide +kernel
theorem dX9_readsCost_22 : decode cX9_readsCost 22 = .ok (.iastore, 1) := by decide +kernel
theorem dX9_readsCost_23 : decode cX9_readsCost 23 = .ok (.iconst 1, 1) := by decide +kernel
theorem dX9_readsCost_24 : decode cX9_readsCost 24 = .ok (.ireturn, 1) := by decide +kernel
theorem dX9_readsItem_0 : decode cX9_readsItem 0 = .ok (.aload_n 0, 1) := by decide +kernel
theorem dX9_readsItem_1 : decode cX9_readsItem 1 = .ok (.invokevirtual 92, 3) := by decide +kernel
theorem dX9_readsItem_4 : decode cX9_readsItem 4 = .ok (.istore_n 1, 1) := by decide +kernel
theorem dX9_readsItem_5 : decode cX9_readsItem 5 = .ok (.aload_n 0, 1) := by decide +kernel
theorem dX9_readsItem_6 : decode cX9_readsItem 6 = .ok (.dup, 1) := by decide +kernel
theorem dX9_readsItem_7 : decode cX9_readsItem 7 = .ok (.getfield 89, 3) := by decide +kernel
theorem dX9_readsItem_10 : decode cX9_readsItem 10 = .ok (.iconst 1, 1) := by decide +kernel
theorem dX9_readsItem_11 : decode cX9_readsItem 11 = .ok (.iadd, 1) := by decide +kernel
theorem dX9_readsItem_12 : decode cX9_readsItem 12 = .ok (.putfield 89, 3) := by decide +kernel
theorem dX9_readsItem_15 : decode cX9_readsItem 15 = .ok (.iload_n 1, 1) := by decide +kernel
theorem dX9_readsItem_16 : decode cX9_readsItem 16 = .ok (.lookupswitch 90 #[(97, 85), (104, 75), (108, 65), (114, 80), (119, 60), (120, 70)], 60) := by decide +kernel
theorem dX9_readsItem_76 : decode cX9_readsItem 76 = .ok (.aload_n 0, 1) := by decide +kernel
theorem dX9_readsItem_77 : decode cX9_readsItem 77 = .ok (.invokevirtual 123, 3) := by decide +kernel
theorem dX9_readsItem_80 : decode cX9_readsItem 80 = .ok (.ireturn, 1) := by decide +kernel
theorem dX9_readsItem_81 : decode cX9_readsItem 81 = .ok (.aload_n 0, 1) := by decide +kernel
theorem dX9_readsItem_82 : decode cX9_readsItem 82 = .ok (.invokevirtual 127, 3) := by decide +kernel
theorem dX9_readsItem_85 : decode cX9_readsItem 85 = .ok (.ireturn, 1) := by decide +kernel
theorem dX9_readsItem_86 : decode cX9_readsItem 86 = .ok (.aload_n 0, 1) := by decide +kernel
theorem dX9_readsItem_87 : decode cX9_readsItem 87 = .ok (.invokevirtual 130, 3) := by decide +kernel
theorem dX9_readsItem_90 : decode cX9_readsItem 90 = .ok (.ireturn, 1) := by decide +kernel
theorem dX9_readsItem_91 : decode cX9_readsItem 91 = .ok (.aload_n 0, 1) := by decide +kernel
theorem dX9_readsItem_92 : decode cX9_readsItem 92 = .ok (.invokevirtual 133, 3) := by decide +kernel
theorem dX9_readsItem_95 : decode cX9_readsItem 95 = .ok (.ireturn, 1) := by decide +kernel
theorem dX9_readsItem_96 : decode cX9_readsItem 96 = .ok (.aload_n 0, 1) := by decide +kernel
theorem dX9_readsItem_97 : decode cX9_readsItem 97 = .ok (.invokevirtual 136, 3) := by decide +kernel
theorem dX9_readsItem_100 : decode cX9_readsItem 100 = .ok (.ireturn, 1) := by decide +kernel
theorem dX9_readsItem_101 : decode cX9_readsItem 101 = .ok (.aload_n 0, 1) := by decide +kernel
theorem dX9_readsItem_102 : decode cX9_readsItem 102 = .ok (.invokevirtual 139, 3) := by decide +kernel
theorem dX9_readsItem_105 : decode cX9_readsItem 105 = .ok (.ireturn, 1) := by decide +kernel
theorem dX9_readsItem_106 : decode cX9_readsItem 106 = .ok (.iconst 0, 1) := by decide +kernel
theorem dX9_readsItem_107 : decode cX9_readsItem 107 = .ok (.ireturn, 1) := by decide +kernel
theorem dX9_reads_0 : decode cX9_reads 0 = .ok (.iconst 0, 1) := by decide +kernel
theorem dX9_reads_1 : decode cX9_reads 1 = .ok (.istore_n 1, 1) := by decide +kernel
theorem dX9_reads_2 : decode cX9_reads 2 = .ok (.iload_n 1, 1) := by decide +kernel
theorem dX9_reads_3 : decode cX9_reads 3 = .ok (.bipush 52, 2) := by decide +kernel
theorem dX9_reads_5 : decode cX9_reads 5 = .ok (.if_icmp .ge 16, 3) := by decide +kernel
theorem dX9_reads_8 : decode cX9_reads 8 = .ok (.aload_n 0, 1) := by decide +kernel
theorem dX9_reads_9 : decode cX9_reads 9 = .ok (.getfield 13, 3) := by decide +kernel
theorem dX9_reads_12 : decode cX9_reads 12 = .ok (.iload_n 1, 1) := by decide +kernel
theorem dX9_reads_13 : decode cX9_reads 13 = .ok (.iconst 0, 1) := by decide +kernel
theorem dX9_reads_14 : decode cX9_reads 14 = .ok (.iastore, 1) := by decide +kernel
theorem dX9_reads_15 : decode cX9_reads 15 = .ok (.iinc 1 1, 3) := by decide +kernel
theorem dX9_reads_18 : decode cX9_reads 18 = .ok (.goto (-16), 3) := by decide +kernel
theorem dX9_reads_21 : decode cX9_reads 21 = .ok (.aload_n 0, 1) := by decide +kernel
theorem dX9_reads_22 : decode cX9_reads 22 = .ok (.getfield 13, 3) := by decide +kernel
theorem dX9_reads_25 : decode cX9_reads 25 = .ok (.iconst 4, 1) := by decide +kernel
theorem dX9_reads_26 : decode cX9_reads 26 = .ok (.iconst 3, 1) := by decide +kernel
theorem dX9_reads_27 : decode cX9_reads 27 = .ok (.iastore, 1) := by decide +kernel
theorem dX9_reads_28 : decode cX9_reads 28 = .ok (.aload_n 0, 1) := by decide +kernel
theorem dX9_reads_29 : decode cX9_reads 29 = .ok (.getfield 13, 3) := by decide +kernel
theorem dX9_reads_32 : decode cX9_reads 32 = .ok (.iconst 5, 1) := by decide +kernel
theorem dX9_reads_33 : decode cX9_reads 33 = .ok (.iconst 2, 1) := by decide +kernel
theorem dX9_reads_34 : decode cX9_reads 34 = .ok (.iastore, 1) := by decide +kernel
theorem dX9_reads_35 : decode cX9_reads 35 = .ok (.aload_n 0, 1) := by decide +kernel
theorem dX9_reads_36 : decode cX9_reads 36 = .ok (.getfield 13, 3) := by decide +kernel
theorem dX9_reads_39 : decode cX9_reads 39 = .ok (.bipush 6, 2) := by decide +kernel
theorem dX9_reads_41 : decode cX9_reads 41 = .ok (.iconst 2, 1) := by decide +kernel
theorem dX9_reads_42 : decode cX9_reads 42 = .ok (.iastore, 1) := by decide +kernel
theorem dX9_reads_43 : decode cX9_reads 43 = .ok (.aload_n 0, 1) := by decide +kernel
theorem dX9_reads_44 : decode cX9_reads 44 = .ok (.iconst 0, 1) := by decide +kernel
theorem dX9_reads_45 : decode cX9_reads 45 = .ok (.putfield 89, 3) := by decide +kernel
theorem dX9_reads_48 : decode cX9_reads 48 = .ok (.aload_n 0, 1) := by decide +kernel
theorem dX9_reads_49 : decode cX9_reads 49 = .ok (.getfield 89, 3) := by decide +kernel
theorem dX9_reads_52 : decode cX9_reads 52 = .ok (.aload_n 0, 1) := by decide +kernel
theorem dX9_reads_53 : decode cX9_reads 53 = .ok (.getfield 86, 3) := by decide +kernel
theorem dX9_reads_56 : decode cX9_reads 56 = .ok (.if_icmp .ge 29, 3) := by decide +kernel
theorem dX9_reads_59 : decode cX9_reads 59 = .ok (.aload_n 0, 1) := by decide +kernel
theorem dX9_reads_60 : decode cX9_reads 60 = .ok (.getfield 89, 3) := by decide +kernel
theorem dX9_reads_63 : decode cX9_reads 63 = .ok (.istore_n 1, 1) := by decide +kernel
theorem dX9_reads_64 : decode cX9_reads 64 = .ok (.aload_n 0, 1) := by decide +kernel
theorem dX9_reads_65 : decode cX9_reads 65 = .ok (.invokevirtual 142, 3) := by decide +kernel
theorem dX9_reads_68 : decode cX9_reads 68 = .ok (.ifCond .eq 12, 3) := by decide +kernel
theorem dX9_reads_71 : decode cX9_reads 71 = .ok (.aload_n 0, 1) := by decide +kernel
theorem dX9_reads_72 : decode cX9_reads 72 = .ok (.bipush 59, 2) := by decide +kernel
theorem dX9_reads_74 : decode cX9_reads 74 = .ok (.invokevirtual 111, 3) := by decide +kernel
theorem dX9_reads_77 : decode cX9_reads 77 = .ok (.ifCond .ne 5, 3) := by decide +kernel
theorem dX9_reads_80 : decode cX9_reads 80 = .ok (.iload_n 1, 1) := by decide +kernel
theorem dX9_reads_81 : decode cX9_reads 81 = .ok (.ireturn, 1) := by decide +kernel
theorem dX9_reads_82 : decode cX9_reads 82 = .ok (.goto (-34), 3) := by decide +kernel
theorem dX9_reads_85 : decode cX9_reads 85 = .ok (.bipush (-4), 2) := by decide +kernel
theorem dX9_reads_87 : decode cX9_reads 87 = .ok (.ireturn, 1) := by decide +kernel
theorem dX9_fault_0 : decode cX9_fault 0 = .ok (.aload_n 0, 1) := by decide +kernel
theorem dX9_fault_1 : decode cX9_fault 1 = .ok (.invokevirtual 145, 3) := by decide +kernel
theorem dX9_fault_4 : decode cX9_fault 4 = .ok (.ireturn, 1) := by decide +kernel
theorem dX9_lay_0 : decode cX9_lay 0 = .ok (.aload_n 0, 1) := by decide +kernel
theorem dX9_lay_1 : decode cX9_lay 1 = .ok (.invokevirtual 145, 3) := by decide +kernel
theorem dX9_lay_4 : decode cX9_lay 4 = .ok (.bipush (-4), 2) := by decide +kernel
theorem dX9_lay_6 : decode cX9_lay 6 = .ok (.if_icmp .ne 21, 3) := by decide +kernel
theorem dX9_lay_9 : decode cX9_lay 9 = .ok (.aload_n 0, 1) := by decide +kernel
theorem dX9_lay_10 : decode cX9_lay 10 = .ok (.getfield 13, 3) := by decide +kernel
theorem dX9_lay_13 : decode cX9_lay 13 = .ok (.iconst 0, 1) := by decide +kernel
theorem dX9_lay_14 : decode cX9_lay 14 = .ok (.iaload, 1) := by decide +kernel
theorem dX9_lay_15 : decode cX9_lay 15 = .ok (.ifCond .eq 12, 3) := by decide +kernel
theorem dX9_lay_18 : decode cX9_lay 18 = .ok (.aload_n 0, 1) := by decide +kernel
theorem dX9_lay_19 : decode cX9_lay 19 = .ok (.getfield 13, 3) := by decide +kernel
theorem dX9_lay_22 : decode cX9_lay 22 = .ok (.iconst 2, 1) := by decide +kernel
theorem dX9_lay_23 : decode cX9_lay 23 = .ok (.iaload, 1) := by decide +kernel
theorem dX9_lay_24 : decode cX9_lay 24 = .ok (.ifCond .ne 6, 3) := by decide +kernel
theorem dX9_lay_27 : decode cX9_lay 27 = .ok (.bipush (-2), 2) := by decide +kernel
theorem dX9_lay_29 : decode cX9_lay 29 = .ok (.ireturn, 1) := by decide +kernel
theorem dX9_lay_30 : decode cX9_lay 30 = .ok (.aload_n 0, 1) := by decide +kernel
theorem dX9_lay_31 : decode cX9_lay 31 = .ok (.getfield 13, 3) := by decide +kernel
theorem dX9_lay_34 : decode cX9_lay 34 = .ok (.iconst 0, 1) := by decide +kernel
theorem dX9_lay_35 : decode cX9_lay 35 = .ok (.aload_n 0, 1) := by decide +kernel
theorem dX9_lay_36 : decode cX9_lay 36 = .ok (.getfield 7, 3) := by decide +kernel
theorem dX9_lay_39 : decode cX9_lay 39 = .ok (.iconst 0, 1) := by decide +kernel
theorem dX9_lay_40 : decode cX9_lay 40 = .ok (.bipush 52, 2) := by decide +kernel
theorem dX9_lay_42 : decode cX9_lay 42 = .ok (.invokestatic 148, 3) := by decide +kernel
theorem dX9_lay_45 : decode cX9_lay 45 = .ok (.aload_n 0, 1) := by decide +kernel
theorem dX9_lay_46 : decode cX9_lay 46 = .ok (.invokevirtual 65, 3) := by decide +kernel
theorem dX9_lay_49 : decode cX9_lay 49 = .ok (.aload_n 0, 1) := by decide +kernel
theorem dX9_lay_50 : decode cX9_lay 50 = .ok (.getfield 7, 3) := by decide +kernel
theorem dX9_lay_53 : decode cX9_lay 53 = .ok (.iconst 2, 1) := by decide +kernel
theorem dX9_lay_54 : decode cX9_lay 54 = .ok (.iaload, 1) := by decide +kernel
theorem dX9_lay_55 : decode cX9_lay 55 = .ok (.ireturn, 1) := by decide +kernel
theorem dX9_signs_0 : decode cX9_signs 0 = .ok (.bipush 9, 2) := by decide +kernel
theorem dX9_signs_2 : decode cX9_signs 2 = .ok (.aload_n 0, 1) := by decide +kernel
theorem dX9_signs_3 : decode cX9_signs 3 = .ok (.getfield 7, 3) := by decide +kernel
theorem dX9_signs_6 : decode cX9_signs 6 = .ok (.iconst 1, 1) := by decide +kernel
theorem dX9_signs_7 : decode cX9_signs 7 = .ok (.iaload, 1) := by decide +kernel
theorem dX9_signs_8 : decode cX9_signs 8 = .ok (.iadd, 1) := by decide +kernel
theorem dX9_signs_9 : decode cX9_signs 9 = .ok (.ireturn, 1) := by decide +kernel
theorem dX9_isWord_0 : decode cX9_isWord 0 = .ok (.iload_n 1, 1) := by decide +kernel
theorem dX9_isWord_1 : decode cX9_isWord 1 = .ok (.i2l, 1) := by decide +kernel
theorem dX9_isWord_2 : decode cX9_isWord 2 = .ok (.lconst 0, 1) := by decide +kernel
theorem dX9_isWord_3 : decode cX9_isWord 3 = .ok (.aload_n 0, 1) := by decide +kernel
theorem dX9_isWord_4 : decode cX9_isWord 4 = .ok (.getfield 7, 3) := by decide +kernel
theorem dX9_isWord_7 : decode cX9_isWord 7 = .ok (.iconst 0, 1) := by decide +kernel
theorem dX9_isWord_8 : decode cX9_isWord 8 = .ok (.iaload, 1) := by decide +kernel
theorem dX9_isWord_9 : decode cX9_isWord 9 = .ok (.iconst 1, 1) := by decide +kernel
theorem dX9_isWord_10 : decode cX9_isWord 10 = .ok (.isub, 1) := by decide +kernel
theorem dX9_isWord_11 : decode cX9_isWord 11 = .ok (.i2l, 1) := by decide +kernel
theorem dX9_isWord_12 : decode cX9_isWord 12 = .ok (.invokestatic 82, 3) := by decide +kernel
theorem dX9_isWord_15 : decode cX9_isWord 15 = .ok (.ireturn, 1) := by decide +kernel
theorem dX9_isSign_0 : decode cX9_isSign 0 = .ok (.iload_n 1, 1) := by decide +kernel
theorem dX9_isSign_1 : decode cX9_isSign 1 = .ok (.i2l, 1) := by decide +kernel
theorem dX9_isSign_2 : decode cX9_isSign 2 = .ok (.lconst 0, 1) := by decide +kernel
theorem dX9_isSign_3 : decode cX9_isSign 3 = .ok (.aload_n 0, 1) := by decide +kernel
theorem dX9_isSign_4 : decode cX9_isSign 4 = .ok (.invokevirtual 152, 3) := by decide +kernel
theorem dX9_isSign_7 : decode cX9_isSign 7 = .ok (.iconst 1, 1) := by decide +kernel
theorem dX9_isSign_8 : decode cX9_isSign 8 = .ok (.isub, 1) := by decide +kernel
theorem dX9_isSign_9 : decode cX9_isSign 9 = .ok (.i2l, 1) := by decide +kernel
theorem dX9_isSign_10 : decode cX9_isSign 10 = .ok (.invokestatic 82, 3) := by decide +kernel
theorem dX9_isSign_13 : decode cX9_isSign 13 = .ok (.ireturn, 1) := by decide +kernel
theorem dX9_isActor_0 : decode cX9_isActor 0 = .ok (.iload_n 1, 1) := by decide +kernel
theorem dX9_isActor_1 : decode cX9_isActor 1 = .ok (.i2l, 1) := by decide +kernel
theorem dX9_isActor_2 : decode cX9_isActor 2 = .ok (.lconst 0, 1) := by decide +kernel
theorem dX9_isActor_3 : decode cX9_isActor 3 = .ok (.aload_n 0, 1) := by decide +kernel
theorem dX9_isActor_4 : decode cX9_isActor 4 = .ok (.getfield 7, 3) := by decide +kernel
theorem dX9_isActor_7 : decode cX9_isActor 7 = .ok (.iconst 2, 1) := by decide +kernel
theorem dX9_isActor_8 : decode cX9_isActor 8 = .ok (.iaload, 1) := by decide +kernel
theorem dX9_isActor_9 : decode cX9_isActor 9 = .ok (.iconst 1, 1) := by decide +kernel
theorem dX9_isActor_10 : decode cX9_isActor 10 = .ok (.isub, 1) := by decide +kernel
theorem dX9_isActor_11 : decode cX9_isActor 11 = .ok (.i2l, 1) := by decide +kernel
theorem dX9_isActor_12 : decode cX9_isActor 12 = .ok (.invokestatic 82, 3) := by decide +kernel
theorem dX9_isActor_15 : decode cX9_isActor 15 = .ok (.ireturn, 1) := by decide +kernel
theorem dX9_likesOf_0 : decode cX9_likesOf 0 = .ok (.iconst 0, 1) := by decide +kernel
theorem dX9_likesOf_1 : decode cX9_likesOf 1 = .ok (.istore_n 2, 1) := by decide +kernel
theorem dX9_likesOf_2 : decode cX9_likesOf 2 = .ok (.iconst 0, 1) := by decide +kernel
theorem dX9_likesOf_3 : decode cX9_likesOf 3 = .ok (.istore_n 3, 1) := by decide +kernel
theorem dX9_likesOf_4 : decode cX9_likesOf 4 = .ok (.iload_n 3, 1) := by decide +kernel
theorem dX9_likesOf_5 : decode cX9_likesOf 5 = .ok (.aload_n 0, 1) := by decide +kernel
theorem dX9_likesOf_6 : decode cX9_likesOf 6 = .ok (.getfield 7, 3) := by decide +kernel
theorem dX9_likesOf_9 : decode cX9_likesOf 9 = .ok (.iconst 1, 1) := by decide +kernel
theorem dX9_likesOf_10 : decode cX9_likesOf 10 = .ok (.iaload, 1) := by decide +kernel
theorem dX9_likesOf_11 : decode cX9_likesOf 11 = .ok (.if_icmp .ge 35, 3) := by decide +kernel
theorem dX9_likesOf_14 : decode cX9_likesOf 14 = .ok (.iload_n 2, 1) := by decide +kernel
theorem dX9_likesOf_15 : decode cX9_likesOf 15 = .ok (.aload_n 0, 1) := by decide +kernel
theorem dX9_likesOf_16 : decode cX9_likesOf 16 = .ok (.getfield 7, 3) := by decide +kernel
theorem dX9_likesOf_19 : decode cX9_likesOf 19 = .ok (.bipush 31, 2) := by decide +kernel
theorem dX9_likesOf_21 : decode cX9_likesOf 21 = .ok (.iload_n 3, 1) := by decide +kernel
theorem dX9_likesOf_22 : decode cX9_likesOf 22 = .ok (.iadd, 1) := by decide +kernel
theorem dX9_likesOf_23 : decode cX9_likesOf 23 = .ok (.iaload, 1) := by decide +kernel
theorem dX9_likesOf_24 : decode cX9_likesOf 24 = .ok (.iload_n 1, 1) := by decide +kernel
theorem dX9_likesOf_25 : decode cX9_likesOf 25 = .ok (.invokestatic 120, 3) := by decide +kernel
theorem dX9_likesOf_28 : decode cX9_likesOf 28 = .ok (.ifCond .eq 9, 3) := by decide +kernel
theorem dX9_likesOf_31 : decode cX9_likesOf 31 = .ok (.iconst 1, 1) := by decide +kernel
theorem dX9_likesOf_32 : decode cX9_likesOf 32 = .ok (.iload_n 3, 1) := by decide +kernel
theorem dX9_likesOf_33 : decode cX9_likesOf 33 = .ok (.ishl, 1) := by decide +kernel
theorem dX9_likesOf_34 : decode cX9_likesOf 34 = .ok (.goto 4, 3) := by decide +kernel
theorem dX9_likesOf_37 : decode cX9_likesOf 37 = .ok (.iconst 0, 1) := by decide +kernel
theorem dX9_likesOf_38 : decode cX9_likesOf 38 = .ok (.ior, 1) := by decide +kernel
theorem dX9_likesOf_39 : decode cX9_likesOf 39 = .ok (.istore_n 2, 1) := by decide +kernel
theorem dX9_likesOf_40 : decode cX9_likesOf 40 = .ok (.iinc 3 1, 3) := by decide +kernel
theorem dX9_likesOf_43 : decode cX9_likesOf 43 = .ok (.goto (-39), 3) := by decide +kernel
theorem dX9_likesOf_46 : decode cX9_likesOf 46 = .ok (.iload_n 2, 1) := by decide +kernel
theorem dX9_likesOf_47 : decode cX9_likesOf 47 = .ok (.ireturn, 1) := by decide +kernel
theorem dX9_word__0 : decode cX9_word_ 0 = .ok (.aload_n 0, 1) := by decide +kernel
theorem dX9_word__1 : decode cX9_word_ 1 = .ok (.iload_n 1, 1) := by decide +kernel
theorem dX9_word__2 : decode cX9_word_ 2 = .ok (.invokevirtual 155, 3) := by decide +kernel
theorem dX9_word__5 : decode cX9_word_ 5 = .ok (.ifCond .eq 15, 3) := by decide +kernel
theorem dX9_word__8 : decode cX9_word_ 8 = .ok (.iload_n 2, 1) := by decide +kernel
theorem dX9_word__9 : decode cX9_word_ 9 = .ok (.i2l, 1) := by decide +kernel
theorem dX9_word__10 : decode cX9_word_ 10 = .ok (.lconst 0, 1) := by decide +kernel
theorem dX9_word__11 : decode cX9_word_ 11 = .ok (.ldc2_w 118, 3) := by decide +kernel
theorem dX9_word__14 : decode cX9_word_ 14 = .ok (.invokestatic 82, 3) := by decide +kernel
theorem dX9_word__17 : decode cX9_word_ 17 = .ok (.ifCond .ne 5, 3) := by decide +kernel
theorem dX9_word__20 : decode cX9_word_ 20 = .ok (.iconst (-1), 1) := by decide +kernel
theorem dX9_word__21 : decode cX9_word_ 21 = .ok (.ireturn, 1) := by decide +kernel
theorem dX9_word__22 : decode cX9_word_ 22 = .ok (.iload_n 2, 1) := by decide +kernel
theorem dX9_word__23 : decode cX9_word_ 23 = .ok (.iconst 3, 1) := by decide +kernel
theorem dX9_word__24 : decode cX9_word_ 24 = .ok (.if_icmp .ge 20, 3) := by decide +kernel
theorem dX9_word__27 : decode cX9_word_ 27 = .ok (.aload_n 0, 1) := by decide +kernel
theorem dX9_word__28 : decode cX9_word_ 28 = .ok (.getfield 7, 3) := by decide +kernel
theorem dX9_word__31 : decode cX9_word_ 31 = .ok (.bipush 7, 2) := by decide +kernel
theorem dX9_word__33 : decode cX9_word_ 33 = .ok (.bipush 8, 2) := by decide +kernel
theorem dX9_word__35 : decode cX9_word_ 35 = .ok (.iload_n 2, 1) := by decide +kernel
theorem dX9_word__36 : decode cX9_word_ 36 = .ok (.imul, 1) := by decide +kernel
theorem dX9_word__37 : decode cX9_word_ 37 = .ok (.iadd, 1) := by decide +kernel
theorem dX9_word__38 : decode cX9_word_ 38 = .ok (.iload_n 1, 1) := by decide +kernel
theorem dX9_word__39 : decode cX9_word_ 39 = .ok (.iadd, 1) := by decide +kernel
theorem dX9_word__40 : decode cX9_word_ 40 = .ok (.iaload, 1) := by decide +kernel
theorem dX9_word__41 : decode cX9_word_ 41 = .ok (.goto 8, 3) := by decide +kernel
theorem dX9_word__44 : decode cX9_word_ 44 = .ok (.aload_n 0, 1) := by decide +kernel
theorem dX9_word__45 : decode cX9_word_ 45 = .ok (.iload_n 1, 1) := by decide +kernel
theorem dX9_word__46 : decode cX9_word_ 46 = .ok (.invokevirtual 158, 3) := by decide +kernel
theorem dX9_word__49 : decode cX9_word_ 49 = .ok (.ireturn, 1) := by decide +kernel
theorem dX9_forbidden_0 : decode cX9_forbidden 0 = .ok (.aload_n 0, 1) := by decide +kernel
theorem dX9_forbidden_1 : decode cX9_forbidden 1 = .ok (.iload_n 1, 1) := by decide +kernel
theorem dX9_forbidden_2 : decode cX9_forbidden 2 = .ok (.invokevirtual 162, 3) := by decide +kernel
theorem dX9_forbidden_5 : decode cX9_forbidden 5 = .ok (.ifCond .eq 16, 3) := by decide +kernel
theorem dX9_forbidden_8 : decode cX9_forbidden 8 = .ok (.aload_n 0, 1) := by decide +kernel
theorem dX9_forbidden_9 : decode cX9_forbidden 9 = .ok (.getfield 7, 3) := by decide +kernel
theorem dX9_forbidden_12 : decode cX9_forbidden 12 = .ok (.iconst 3, 1) := by decide +kernel
theorem dX9_forbidden_13 : decode cX9_forbidden 13 = .ok (.iaload, 1) := by decide +kernel
theorem dX9_forbidden_14 : decode cX9_forbidden 14 = .ok (.iload_n 1, 1) := by decide +kernel
theorem dX9_forbidden_15 : decode cX9_forbidden 15 = .ok (.ishr, 1) := by decide +kernel
theorem dX9_forbidden_16 : decode cX9_forbidden 16 = .ok (.iconst 1, 1) := by decide +kernel
theorem dX9_forbidden_17 : decode cX9_forbidden 17 = .ok (.iand, 1) := by decide +kernel
theorem dX9_forbidden_18 : decode cX9_forbidden 18 = .ok (.goto 4, 3) := by decide +kernel
theorem dX9_forbidden_21 : decode cX9_forbidden 21 = .ok (.iconst (-1), 1) := by decide +kernel
theorem dX9_forbidden_22 : decode cX9_forbidden 22 = .ok (.ireturn, 1) := by decide +kernel
theorem dX9_actor__0 : decode cX9_actor_ 0 = .ok (.aload_n 0, 1) := by decide +kernel
theorem dX9_actor__1 : decode cX9_actor_ 1 = .ok (.iload_n 1, 1) := by decide +kernel
theorem dX9_actor__2 : decode cX9_actor_ 2 = .ok (.invokevirtual 165, 3) := by decide +kernel
theorem dX9_actor__5 : decode cX9_actor_ 5 = .ok (.ifCond .ne 5, 3) := by decide +kernel
theorem dX9_actor__8 : decode cX9_actor_ 8 = .ok (.iconst (-1), 1) := by decide +kernel
theorem dX9_actor__9 : decode cX9_actor_ 9 = .ok (.ireturn, 1) := by decide +kernel
theorem dX9_actor__10 : decode cX9_actor_ 10 = .ok (.iload_n 2, 1) := by decide +kernel
theorem dX9_actor__11 : decode cX9_actor_ 11 = .ok (.tableswitch 60 0 5 #[37, 47, 47, 47, 47, 47], 37) := by decide +kernel
theorem dX9_actor__48 : decode cX9_actor_ 48 = .ok (.aload_n 0, 1) := by decide +kernel
theorem dX9_actor__49 : decode cX9_actor_ 49 = .ok (.getfield 7, 3) := by decide +kernel
theorem dX9_actor__52 : decode cX9_actor_ 52 = .ok (.bipush 37, 2) := by decide +kernel
theorem dX9_actor__54 : decode cX9_actor_ 54 = .ok (.iload_n 1, 1) := by decide +kernel
theorem dX9_actor__55 : decode cX9_actor_ 55 = .ok (.iadd, 1) := by decide +kernel
theorem dX9_actor__56 : decode cX9_actor_ 56 = .ok (.iaload, 1) := by decide +kernel
theorem dX9_actor__57 : decode cX9_actor_ 57 = .ok (.ireturn, 1) := by decide +kernel
theorem dX9_actor__58 : decode cX9_actor_ 58 = .ok (.aload_n 0, 1) := by decide +kernel
theorem dX9_actor__59 : decode cX9_actor_ 59 = .ok (.getfield 16, 3) := by decide +kernel
theorem dX9_actor__62 : decode cX9_actor_ 62 = .ok (.iconst 5, 1) := by decide +kernel
theorem dX9_actor__63 : decode cX9_actor_ 63 = .ok (.iload_n 2, 1) := by decide +kernel
theorem dX9_actor__64 : decode cX9_actor_ 64 = .ok (.imul, 1) := by decide +kernel
theorem dX9_actor__65 : decode cX9_actor_ 65 = .ok (.iconst 5, 1) := by decide +kernel
theorem dX9_actor__66 : decode cX9_actor_ 66 = .ok (.isub, 1) := by decide +kernel
theorem dX9_actor__67 : decode cX9_actor_ 67 = .ok (.iload_n 1, 1) := by decide +kernel
theorem dX9_actor__68 : decode cX9_actor_ 68 = .ok (.iadd, 1) := by decide +kernel
theorem dX9_actor__69 : decode cX9_actor_ 69 = .ok (.iaload, 1) := by decide +kernel
theorem dX9_actor__70 : decode cX9_actor_ 70 = .ok (.ireturn, 1) := by decide +kernel
theorem dX9_actor__71 : decode cX9_actor_ 71 = .ok (.iconst (-1), 1) := by decide +kernel
theorem dX9_actor__72 : decode cX9_actor_ 72 = .ok (.ireturn, 1) := by decide +kernel
theorem dX9_shown_0 : decode cX9_shown 0 = .ok (.aload_n 0, 1) := by decide +kernel
theorem dX9_shown_1 : decode cX9_shown 1 = .ok (.iload_n 1, 1) := by decide +kernel
theorem dX9_shown_2 : decode cX9_shown 2 = .ok (.invokevirtual 165, 3) := by decide +kernel
theorem dX9_shown_5 : decode cX9_shown 5 = .ok (.ifCond .eq 7, 3) := by decide +kernel
theorem dX9_shown_8 : decode cX9_shown 8 = .ok (.iload_n 2, 1) := by decide +kernel
theorem dX9_shown_9 : decode cX9_shown 9 = .ok (.ifCond .ge 5, 3) := by decide +kernel
theorem dX9_shown_12 : decode cX9_shown 12 = .ok (.iconst (-1), 1) := by decide +kernel
theorem dX9_shown_13 : decode cX9_shown 13 = .ok (.ireturn, 1) := by decide +kernel
theorem dX9_shown_14 : decode cX9_shown 14 = .ok (.iload_n 2, 1) := by decide +kernel
theorem dX9_shown_15 : decode cX9_shown 15 = .ok (.aload_n 0, 1) := by decide +kernel
theorem dX9_shown_16 : decode cX9_shown 16 = .ok (.getfield 16, 3) := by decide +kernel
theorem dX9_shown_19 : decode cX9_shown 19 = .ok (.bipush 10, 2) := by decide +kernel
theorem dX9_shown_21 : decode cX9_shown 21 = .ok (.iload_n 1, 1) := by decide +kernel
theorem dX9_shown_22 : decode cX9_shown 22 = .ok (.iadd, 1) := by decide +kernel
theorem dX9_shown_23 : decode cX9_shown 23 = .ok (.iaload, 1) := by decide +kernel
theorem dX9_shown_24 : decode cX9_shown 24 = .ok (.if_icmp .ge 19, 3) := by decide +kernel
theorem dX9_shown_27 : decode cX9_shown 27 = .ok (.aload_n 0, 1) := by decide +kernel
theorem dX9_shown_28 : decode cX9_shown 28 = .ok (.getfield 16, 3) := by decide +kernel
theorem dX9_shown_31 : decode cX9_shown 31 = .ok (.bipush 25, 2) := by decide +kernel
theorem dX9_shown_33 : decode cX9_shown 33 = .ok (.iconst 5, 1) := by decide +kernel
theorem dX9_shown_34 : decode cX9_shown 34 = .ok (.iload_n 1, 1) := by decide +kernel
theorem dX9_shown_35 : decode cX9_shown 35 = .ok (.imul, 1) := by decide +kernel
theorem dX9_shown_36 : decode cX9_shown 36 = .ok (.iadd, 1) := by decide +kernel
theorem dX9_shown_37 : decode cX9_shown 37 = .ok (.iload_n 2, 1) := by decide +kernel
theorem dX9_shown_38 : decode cX9_shown 38 = .ok (.iadd, 1) := by decide +kernel
theorem dX9_shown_39 : decode cX9_shown 39 = .ok (.iaload, 1) := by decide +kernel
theorem dX9_shown_40 : decode cX9_shown 40 = .ok (.goto 5, 3) := by decide +kernel
theorem dX9_shown_43 : decode cX9_shown 43 = .ok (.bipush (-4), 2) := by decide +kernel
theorem dX9_shown_45 : decode cX9_shown 45 = .ok (.ireturn, 1) := by decide +kernel
theorem dX9_byPart_0 : decode cX9_byPart 0 = .ok (.iload_n 1, 1) := by decide +kernel
theorem dX9_byPart_1 : decode cX9_byPart 1 = .ok (.iconst 1, 1) := by decide +kernel
theorem dX9_byPart_2 : decode cX9_byPart 2 = .ok (.if_icmp .ne 12, 3) := by decide +kernel
theorem dX9_byPart_5 : decode cX9_byPart 5 = .ok (.iload_n 3, 1) := by decide +kernel
theorem dX9_byPart_6 : decode cX9_byPart 6 = .ok (.iconst 1, 1) := by decide +kernel
theorem dX9_byPart_7 : decode cX9_byPart 7 = .ok (.iadd, 1) := by decide +kernel
theorem dX9_byPart_8 : decode cX9_byPart 8 = .ok (.bipush 6, 2) := by decide +kernel
theorem dX9_byPart_10 : decode cX9_byPart 10 = .ok (.irem, 1) := by decide +kernel
theorem dX9_byPart_11 : decode cX9_byPart 11 = .ok (.goto 4, 3) := by decide +kernel
theorem dX9_byPart_14 : decode cX9_byPart 14 = .ok (.iload_n 3, 1) := by decide +kernel
theorem dX9_byPart_15 : decode cX9_byPart 15 = .ok (.istore 5, 2) := by decide +kernel
theorem dX9_byPart_17 : decode cX9_byPart 17 = .ok (.aload_n 0, 1) := by decide +kernel
theorem dX9_byPart_18 : decode cX9_byPart 18 = .ok (.getfield 7, 3) := by decide +kernel
theorem dX9_byPart_21 : decode cX9_byPart 21 = .ok (.bipush 23, 2) := by decide +kernel
theorem dX9_byPart_23 : decode cX9_byPart 23 = .ok (.iload_n 2, 1) := by decide +kernel
theorem dX9_byPart_24 : decode cX9_byPart 24 = .ok (.iadd, 1) := by decide +kernel
theorem dX9_byPart_25 : decode cX9_byPart 25 = .ok (.iaload, 1) := by decide +kernel
theorem dX9_byPart_26 : decode cX9_byPart 26 = .ok (.iload 5, 2) := by decide +kernel
theorem dX9_byPart_28 : decode cX9_byPart 28 = .ok (.invokestatic 120, 3) := by decide +kernel
theorem dX9_byPart_31 : decode cX9_byPart 31 = .ok (.ifCond .ne 7, 3) := by decide +kernel
theorem dX9_byPart_34 : decode cX9_byPart 34 = .ok (.iconst 1, 1) := by decide +kernel
theorem dX9_byPart_35 : decode cX9_byPart 35 = .ok (.goto 18, 3) := by decide +kernel
theorem dX9_byPart_38 : decode cX9_byPart 38 = .ok (.iload_n 1, 1) := by decide +kernel
theorem dX9_byPart_39 : decode cX9_byPart 39 = .ok (.iconst 2, 1) := by decide +kernel
theorem dX9_byPart_40 : decode cX9_byPart 40 = .ok (.if_icmp .ne 11, 3) := by decide +kernel
theorem dX9_byPart_43 : decode cX9_byPart 43 = .ok (.iload 4, 2) := by decide +kernel
theorem dX9_byPart_45 : decode cX9_byPart 45 = .ok (.iload 4, 2) := by decide +kernel
theorem dX9_byPart_47 : decode cX9_byPart 47 = .ok (.imul, 1) := by decide +kernel
theorem dX9_byPart_48 : decode cX9_byPart 48 = .ok (.goto 5, 3) := by decide +kernel
theorem dX9_byPart_51 : decode cX9_byPart 51 = .ok (.iload 4, 2) := by decide +kernel
theorem dX9_byPart_53 : decode cX9_byPart 53 = .ok (.ireturn, 1) := by decide +kernel
theorem dX9_byLikeness_0 : decode cX9_byLikeness 0 = .ok (.aload_n 0, 1) := by decide +kernel
theorem dX9_byLikeness_1 : decode cX9_byLikeness 1 = .ok (.getfield 7, 3) := by decide +kernel
theorem dX9_byLikeness_4 : decode cX9_byLikeness 4 = .ok (.bipush 31, 2) := by decide +kernel
theorem dX9_byLikeness_6 : decode cX9_byLikeness 6 = .ok (.iload_n 3, 1) := by decide +kernel
theorem dX9_byLikeness_7 : decode cX9_byLikeness 7 = .ok (.iadd, 1) := by decide +kernel
theorem dX9_byLikeness_8 : decode cX9_byLikeness 8 = .ok (.iaload, 1) := by decide +kernel
theorem dX9_byLikeness_9 : decode cX9_byLikeness 9 = .ok (.iload_n 2, 1) := by decide +kernel
theorem dX9_byLikeness_10 : decode cX9_byLikeness 10 = .ok (.invokestatic 120, 3) := by decide +kernel
theorem dX9_byLikeness_13 : decode cX9_byLikeness 13 = .ok (.ifCond .ne 5, 3) := by decide +kernel
theorem dX9_byLikeness_16 : decode cX9_byLikeness 16 = .ok (.iconst 1, 1) := by decide +kernel
theorem dX9_byLikeness_17 : decode cX9_byLikeness 17 = .ok (.ireturn, 1) := by decide +kernel
theorem dX9_byLikeness_18 : decode cX9_byLikeness 18 = .ok (.iload_n 1, 1) := by decide +kernel
theorem dX9_byLikeness_19 : decode cX9_byLikeness 19 = .ok (.iconst 3, 1) := by decide +kernel
theorem dX9_byLikeness_20 : decode cX9_byLikeness 20 = .ok (.if_icmp .ne 10, 3) := by decide +kernel
theorem dX9_byLikeness_23 : decode cX9_byLikeness 23 = .ok (.iload 4, 2) := by decide +kernel
theorem dX9_byLikeness_25 : decode cX9_byLikeness 25 = .ok (.iconst 1, 1) := by decide +kernel
theorem dX9_byLikeness_26 : decode cX9_byLikeness 26 = .ok (.iadd, 1) := by decide +kernel
theorem dX9_byLikeness_27 : decode cX9_byLikeness 27 = .ok (.goto 18, 3) := by decide +kernel
theorem dX9_byLikeness_30 : decode cX9_byLikeness 30 = .ok (.iload_n 1, 1) := by decide +kernel
theorem dX9_byLikeness_31 : decode cX9_byLikeness 31 = .ok (.iconst 2, 1) := by decide +kernel
theorem dX9_byLikeness_32 : decode cX9_byLikeness 32 = .ok (.if_icmp .ne 11, 3) := by decide +kernel
theorem dX9_byLikeness_35 : decode cX9_byLikeness 35 = .ok (.iload 4, 2) := by decide +kernel
theorem dX9_byLikeness_37 : decode cX9_byLikeness 37 = .ok (.iload 4, 2) := by decide +kernel
theorem dX9_byLikeness_39 : decode cX9_byLikeness 39 = .ok (.imul, 1) := by decide +kernel
theorem dX9_byLikeness_40 : decode cX9_byLikeness 40 = .ok (.goto 5, 3) := by decide +kernel
theorem dX9_byLikeness_43 : decode cX9_byLikeness 43 = .ok (.iload 4, 2) := by decide +kernel
theorem dX9_byLikeness_45 : decode cX9_byLikeness 45 = .ok (.ireturn, 1) := by decide +kernel
theorem dX9_times_0 : decode cX9_times 0 = .ok (.iload_n 3, 1) := by decide +kernel
theorem dX9_times_1 : decode cX9_times 1 = .ok (.bipush 6, 2) := by decide +kernel
theorem dX9_times_3 : decode cX9_times 3 = .ok (.if_icmp .ge 13, 3) := by decide +kernel
theorem dX9_times_6 : decode cX9_times 6 = .ok (.aload_n 0, 1) := by decide +kernel
theorem dX9_times_7 : decode cX9_times 7 = .ok (.iload_n 1, 1) := by decide +kernel
theorem dX9_times_8 : decode cX9_times 8 = .ok (.iload_n 2, 1) := by decide +kernel
theorem dX9_times_9 : decode cX9_times 9 = .ok (.iload_n 3, 1) := by decide +kernel
theorem dX9_times_10 : decode cX9_times 10 = .ok (.iload 5, 2) := by decide +kernel
theorem dX9_times_12 : decode cX9_times 12 = .ok (.invokevirtual 168, 3) := by decide +kernel
theorem dX9_times_15 : decode cX9_times 15 = .ok (.ireturn, 1) := by decide +kernel
theorem dX9_times_16 : decode cX9_times 16 = .ok (.iload_n 3, 1) := by decide +kernel
theorem dX9_times_17 : decode cX9_times 17 = .ok (.bipush 9, 2) := by decide +kernel
theorem dX9_times_19 : decode cX9_times 19 = .ok (.if_icmp .ge 24, 3) := by decide +kernel
theorem dX9_times_22 : decode cX9_times 22 = .ok (.aload_n 0, 1) := by decide +kernel
theorem dX9_times_23 : decode cX9_times 23 = .ok (.getfield 7, 3) := by decide +kernel
theorem dX9_times_26 : decode cX9_times 26 = .ok (.bipush 15, 2) := by decide +kernel
theorem dX9_times_28 : decode cX9_times 28 = .ok (.iload_n 2, 1) := by decide +kernel
theorem dX9_times_29 : decode cX9_times 29 = .ok (.iadd, 1) := by decide +kernel
theorem dX9_times_30 : decode cX9_times 30 = .ok (.iaload, 1) := by decide +kernel
theorem dX9_times_31 : decode cX9_times 31 = .ok (.iload_n 3, 1) := by decide +kernel
theorem dX9_times_32 : decode cX9_times 32 = .ok (.iconst 5, 1) := by decide +kernel
theorem dX9_times_33 : decode cX9_times 33 = .ok (.isub, 1) := by decide +kernel
theorem dX9_times_34 : decode cX9_times 34 = .ok (.if_icmp .ne 7, 3) := by decide +kernel
theorem dX9_times_37 : decode cX9_times 37 = .ok (.iconst 1, 1) := by decide +kernel
theorem dX9_times_38 : decode cX9_times 38 = .ok (.goto 4, 3) := by decide +kernel
theorem dX9_times_41 : decode cX9_times 41 = .ok (.iconst 0, 1) := by decide +kernel
theorem dX9_times_42 : decode cX9_times 42 = .ok (.ireturn, 1) := by decide +kernel
theorem dX9_times_43 : decode cX9_times 43 = .ok (.aload_n 0, 1) := by decide +kernel
theorem dX9_times_44 : decode cX9_times 44 = .ok (.iload_n 1, 1) := by decide +kernel
theorem dX9_times_45 : decode cX9_times 45 = .ok (.iload_n 2, 1) := by decide +kernel
theorem dX9_times_46 : decode cX9_times 46 = .ok (.iload_n 3, 1) := by decide +kernel
theorem dX9_times_47 : decode cX9_times 47 = .ok (.bipush 9, 2) := by decide +kernel
theorem dX9_times_49 : decode cX9_times 49 = .ok (.isub, 1) := by decide +kernel
theorem dX9_times_50 : decode cX9_times 50 = .ok (.iload 4, 2) := by decide +kernel
theorem dX9_times_52 : decode cX9_times 52 = .ok (.invokevirtual 172, 3) := by decide +kernel
theorem dX9_times_55 : decode cX9_times 55 = .ok (.ireturn, 1) := by decide +kernel
theorem dX9_weigh_0 : decode cX9_weigh 0 = .ok (.iconst 0, 1) := by decide +kernel
theorem dX9_weigh_1 : decode cX9_weigh 1 = .ok (.istore 8, 2) := by decide +kernel
theorem dX9_weigh_3 : decode cX9_weigh 3 = .ok (.iload 8, 2) := by decide +kernel
theorem dX9_weigh_5 : decode cX9_weigh 5 = .ok (.aload_n 0, 1) := by decide +kernel
theorem dX9_weigh_6 : decode cX9_weigh 6 = .ok (.getfield 7, 3) := by decide +kernel
theorem dX9_weigh_9 : decode cX9_weigh 9 = .ok (.iconst 0, 1) := by decide +kernel
theorem dX9_weigh_10 : decode cX9_weigh 10 = .ok (.iaload, 1) := by decide +kernel
theorem dX9_weigh_11 : decode cX9_weigh 11 = .ok (.if_icmp .ge 82, 3) := by decide +kernel
theorem dX9_weigh_14 : decode cX9_weigh 14 = .ok (.iload 5, 2) := by decide +kernel
theorem dX9_weigh_16 : decode cX9_weigh 16 = .ok (.iload 8, 2) := by decide +kernel
theorem dX9_weigh_18 : decode cX9_weigh 18 = .ok (.invokestatic 120, 3) := by decide +kernel
theorem dX9_weigh_21 : decode cX9_weigh 21 = .ok (.ifCond .eq 7, 3) := by decide +kernel
theorem dX9_weigh_24 : decode cX9_weigh 24 = .ok (.iconst 0, 1) := by decide +kernel
theorem dX9_weigh_25 : decode cX9_weigh 25 = .ok (.goto 13, 3) := by decide +kernel
theorem dX9_weigh_28 : decode cX9_weigh 28 = .ok (.aload_n 0, 1) := by decide +kernel
theorem dX9_weigh_29 : decode cX9_weigh 29 = .ok (.getfield 7, 3) := by decide +kernel
theorem dX9_weigh_32 : decode cX9_weigh 32 = .ok (.bipush 7, 2) := by decide +kernel
theorem dX9_weigh_34 : decode cX9_weigh 34 = .ok (.iload 8, 2) := by decide +kernel
theorem dX9_weigh_36 : decode cX9_weigh 36 = .ok (.iadd, 1) := by decide +kernel
theorem dX9_weigh_37 : decode cX9_weigh 37 = .ok (.iaload, 1) := by decide +kernel
theorem dX9_weigh_38 : decode cX9_weigh 38 = .ok (.istore 9, 2) := by decide +kernel
theorem dX9_weigh_40 : decode cX9_weigh 40 = .ok (.iconst 0, 1) := by decide +kernel
theorem dX9_weigh_41 : decode cX9_weigh 41 = .ok (.istore 10, 2) := by decide +kernel
theorem dX9_weigh_43 : decode cX9_weigh 43 = .ok (.iload 10, 2) := by decide +kernel
theorem dX9_weigh_45 : decode cX9_weigh 45 = .ok (.iload 4, 2) := by decide +kernel
theorem dX9_weigh_47 : decode cX9_weigh 47 = .ok (.if_icmp .ge 31, 3) := by decide +kernel
theorem dX9_weigh_50 : decode cX9_weigh 50 = .ok (.iload 9, 2) := by decide +kernel
theorem dX9_weigh_52 : decode cX9_weigh 52 = .ok (.aload_n 0, 1) := by decide +kernel
theorem dX9_weigh_53 : decode cX9_weigh 53 = .ok (.iload_n 1, 1) := by decide +kernel
theorem dX9_weigh_54 : decode cX9_weigh 54 = .ok (.iload 8, 2) := by decide +kernel
theorem dX9_weigh_56 : decode cX9_weigh 56 = .ok (.aload_n 2, 1) := by decide +kernel
theorem dX9_weigh_57 : decode cX9_weigh 57 = .ok (.iload_n 3, 1) := by decide +kernel
theorem dX9_weigh_58 : decode cX9_weigh 58 = .ok (.iload 10, 2) := by decide +kernel
theorem dX9_weigh_60 : decode cX9_weigh 60 = .ok (.iadd, 1) := by decide +kernel
theorem dX9_weigh_61 : decode cX9_weigh 61 = .ok (.iaload, 1) := by decide +kernel
theorem dX9_weigh_62 : decode cX9_weigh 62 = .ok (.iload 6, 2) := by decide +kernel
theorem dX9_weigh_64 : decode cX9_weigh 64 = .ok (.iload 7, 2) := by decide +kernel
theorem dX9_weigh_66 : decode cX9_weigh 66 = .ok (.invokevirtual 175, 3) := by decide +kernel
theorem dX9_weigh_69 : decode cX9_weigh 69 = .ok (.imul, 1) := by decide +kernel
theorem dX9_weigh_70 : decode cX9_weigh 70 = .ok (.istore 9, 2) := by decide +kernel
theorem dX9_weigh_72 : decode cX9_weigh 72 = .ok (.iinc 10 1, 3) := by decide +kernel
theorem dX9_weigh_75 : decode cX9_weigh 75 = .ok (.goto (-32), 3) := by decide +kernel
theorem dX9_weigh_78 : decode cX9_weigh 78 = .ok (.aload_n 0, 1) := by decide +kernel
theorem dX9_weigh_79 : decode cX9_weigh 79 = .ok (.getfield 34, 3) := by decide +kernel
theorem dX9_weigh_82 : decode cX9_weigh 82 = .ok (.iload 8, 2) := by decide +kernel
theorem dX9_weigh_84 : decode cX9_weigh 84 = .ok (.iload 9, 2) := by decide +kernel
theorem dX9_weigh_86 : decode cX9_weigh 86 = .ok (.iastore, 1) := by decide +kernel
theorem dX9_weigh_87 : decode cX9_weigh 87 = .ok (.iinc 8 1, 3) := by decide +kernel
theorem dX9_weigh_90 : decode cX9_weigh 90 = .ok (.goto (-87), 3) := by decide +kernel
theorem dX9_weigh_93 : decode cX9_weigh 93 = .ok (.return_, 1) := by decide +kernel
theorem dX9_weighActor_0 : decode cX9_weighActor 0 = .ok (.aload_n 0, 1) := by decide +kernel
theorem dX9_weighActor_1 : decode cX9_weighActor 1 = .ok (.aload_n 0, 1) := by decide +kernel
theorem dX9_weighActor_2 : decode cX9_weighActor 2 = .ok (.getfield 7, 3) := by decide +kernel
theorem dX9_weighActor_5 : decode cX9_weighActor 5 = .ok (.bipush 37, 2) := by decide +kernel
theorem dX9_weighActor_7 : decode cX9_weighActor 7 = .ok (.iload_n 2, 1) := by decide +kernel
theorem dX9_weighActor_8 : decode cX9_weighActor 8 = .ok (.iadd, 1) := by decide +kernel
theorem dX9_weighActor_9 : decode cX9_weighActor 9 = .ok (.iaload, 1) := by decide +kernel
theorem dX9_weighActor_10 : decode cX9_weighActor 10 = .ok (.aload_n 1, 1) := by decide +kernel
theorem dX9_weighActor_11 : decode cX9_weighActor 11 = .ok (.bipush 25, 2) := by decide +kernel
theorem dX9_weighActor_13 : decode cX9_weighActor 13 = .ok (.iconst 5, 1) := by decide +kernel
theorem dX9_weighActor_14 : decode cX9_weighActor 14 = .ok (.iload_n 2, 1) := by decide +kernel
theorem dX9_weighActor_15 : decode cX9_weighActor 15 = .ok (.imul, 1) := by decide +kernel
theorem dX9_weighActor_16 : decode cX9_weighActor 16 = .ok (.iadd, 1) := by decide +kernel
theorem dX9_weighActor_17 : decode cX9_weighActor 17 = .ok (.aload_n 1, 1) := by decide +kernel
theorem dX9_weighActor_18 : decode cX9_weighActor 18 = .ok (.bipush 10, 2) := by decide +kernel
theorem dX9_weighActor_20 : decode cX9_weighActor 20 = .ok (.iload_n 2, 1) := by decide +kernel
theorem dX9_weighActor_21 : decode cX9_weighActor 21 = .ok (.iadd, 1) := by decide +kernel
theorem dX9_weighActor_22 : decode cX9_weighActor 22 = .ok (.iaload, 1) := by decide +kernel
theorem dX9_weighActor_23 : decode cX9_weighActor 23 = .ok (.aload_n 1, 1) := by decide +kernel
theorem dX9_weighActor_24 : decode cX9_weighActor 24 = .ok (.bipush 15, 2) := by decide +kernel
theorem dX9_weighActor_26 : decode cX9_weighActor 26 = .ok (.iload_n 2, 1) := by decide +kernel
theorem dX9_weighActor_27 : decode cX9_weighActor 27 = .ok (.iadd, 1) := by decide +kernel
theorem dX9_weighActor_28 : decode cX9_weighActor 28 = .ok (.iaload, 1) := by decide +kernel
theorem dX9_weighActor_29 : decode cX9_weighActor 29 = .ok (.aload_n 0, 1) := by decide +kernel
theorem dX9_weighActor_30 : decode cX9_weighActor 30 = .ok (.getfield 7, 3) := by decide +kernel
theorem dX9_weighActor_33 : decode cX9_weighActor 33 = .ok (.iconst 4, 1) := by decide +kernel
theorem dX9_weighActor_34 : decode cX9_weighActor 34 = .ok (.iaload, 1) := by decide +kernel
theorem dX9_weighActor_35 : decode cX9_weighActor 35 = .ok (.aload_n 0, 1) := by decide +kernel
theorem dX9_weighActor_36 : decode cX9_weighActor 36 = .ok (.getfield 7, 3) := by decide +kernel
theorem dX9_weighActor_39 : decode cX9_weighActor 39 = .ok (.iconst 5, 1) := by decide +kernel
theorem dX9_weighActor_40 : decode cX9_weighActor 40 = .ok (.iaload, 1) := by decide +kernel
theorem dX9_weighActor_41 : decode cX9_weighActor 41 = .ok (.invokevirtual 179, 3) := by decide +kernel
theorem dX9_weighActor_44 : decode cX9_weighActor 44 = .ok (.return_, 1) := by decide +kernel
theorem dX9_greatest_0 : decode cX9_greatest 0 = .ok (.bipush (-4), 2) := by decide +kernel
theorem dX9_greatest_2 : decode cX9_greatest 2 = .ok (.istore_n 2, 1) := by decide +kernel
theorem dX9_greatest_3 : decode cX9_greatest 3 = .ok (.iconst 0, 1) := by decide +kernel
theorem dX9_greatest_4 : decode cX9_greatest 4 = .ok (.istore_n 3, 1) := by decide +kernel
theorem dX9_greatest_5 : decode cX9_greatest 5 = .ok (.iload_n 3, 1) := by decide +kernel
theorem dX9_greatest_6 : decode cX9_greatest 6 = .ok (.aload_n 0, 1) := by decide +kernel
theorem dX9_greatest_7 : decode cX9_greatest 7 = .ok (.getfield 7, 3) := by decide +kernel
theorem dX9_greatest_10 : decode cX9_greatest 10 = .ok (.iconst 0, 1) := by decide +kernel
theorem dX9_greatest_11 : decode cX9_greatest 11 = .ok (.iaload, 1) := by decide +kernel
theorem dX9_greatest_12 : decode cX9_greatest 12 = .ok (.if_icmp .ge 36, 3) := by decide +kernel
theorem dX9_greatest_15 : decode cX9_greatest 15 = .ok (.aload_n 1, 1) := by decide +kernel
theorem dX9_greatest_16 : decode cX9_greatest 16 = .ok (.iload_n 3, 1) := by decide +kernel
theorem dX9_greatest_17 : decode cX9_greatest 17 = .ok (.iaload, 1) := by decide +kernel
theorem dX9_greatest_18 : decode cX9_greatest 18 = .ok (.ifCond .le 22, 3) := by decide +kernel
theorem dX9_greatest_21 : decode cX9_greatest 21 = .ok (.iload_n 2, 1) := by decide +kernel
theorem dX9_greatest_22 : decode cX9_greatest 22 = .ok (.bipush (-4), 2) := by decide +kernel
theorem dX9_greatest_24 : decode cX9_greatest 24 = .ok (.if_icmp .eq 12, 3) := by decide +kernel
theorem dX9_greatest_27 : decode cX9_greatest 27 = .ok (.aload_n 1, 1) := by decide +kernel
theorem dX9_greatest_28 : decode cX9_greatest 28 = .ok (.iload_n 3, 1) := by decide +kernel
theorem dX9_greatest_29 : decode cX9_greatest 29 = .ok (.iaload, 1) := by decide +kernel
theorem dX9_greatest_30 : decode cX9_greatest 30 = .ok (.aload_n 1, 1) := by decide +kernel
theorem dX9_greatest_31 : decode cX9_greatest 31 = .ok (.iload_n 2, 1) := by decide +kernel
theorem dX9_greatest_32 : decode cX9_greatest 32 = .ok (.iaload, 1) := by decide +kernel
theorem dX9_greatest_33 : decode cX9_greatest 33 = .ok (.if_icmp .le 7, 3) := by decide +kernel
theorem dX9_greatest_36 : decode cX9_greatest 36 = .ok (.iload_n 3, 1) := by decide +kernel
theorem dX9_greatest_37 : decode cX9_greatest 37 = .ok (.goto 4, 3) := by decide +kernel
theorem dX9_greatest_40 : decode cX9_greatest 40 = .ok (.iload_n 2, 1) := by decide +kernel
theorem dX9_greatest_41 : decode cX9_greatest 41 = .ok (.istore_n 2, 1) := by decide +kernel
theorem dX9_greatest_42 : decode cX9_greatest 42 = .ok (.iinc 3 1, 3) := by decide +kernel
theorem dX9_greatest_45 : decode cX9_greatest 45 = .ok (.goto (-40), 3) := by decide +kernel
theorem dX9_greatest_48 : decode cX9_greatest 48 = .ok (.iload_n 2, 1) := by decide +kernel
theorem dX9_greatest_49 : decode cX9_greatest 49 = .ok (.ireturn, 1) := by decide +kernel
theorem dX9_nextAt_0 : decode cX9_nextAt 0 = .ok (.aload_n 0, 1) := by decide +kernel
theorem dX9_nextAt_1 : decode cX9_nextAt 1 = .ok (.aload_n 1, 1) := by decide +kernel
theorem dX9_nextAt_2 : decode cX9_nextAt 2 = .ok (.iload_n 2, 1) := by decide +kernel
theorem dX9_nextAt_3 : decode cX9_nextAt 3 = .ok (.invokevirtual 183, 3) := by decide +kernel
theorem dX9_nextAt_6 : decode cX9_nextAt 6 = .ok (.aload_n 0, 1) := by decide +kernel
theorem dX9_nextAt_7 : decode cX9_nextAt 7 = .ok (.aload_n 0, 1) := by decide +kernel
theorem dX9_nextAt_8 : decode cX9_nextAt 8 = .ok (.getfield 34, 3) := by decide +kernel
theorem dX9_nextAt_11 : decode cX9_nextAt 11 = .ok (.invokevirtual 187, 3) := by decide +kernel
theorem dX9_nextAt_14 : decode cX9_nextAt 14 = .ok (.ireturn, 1) := by decide +kernel
theorem dX9_waits_0 : decode cX9_waits 0 = .ok (.aload_n 0, 1) := by decide +kernel
theorem dX9_waits_1 : decode cX9_waits 1 = .ok (.getfield 16, 3) := by decide +kernel
theorem dX9_waits_4 : decode cX9_waits 4 = .ok (.bipush 20, 2) := by decide +kernel
theorem dX9_waits_6 : decode cX9_waits 6 = .ok (.iload_n 1, 1) := by decide +kernel
theorem dX9_waits_7 : decode cX9_waits 7 = .ok (.iadd, 1) := by decide +kernel
theorem dX9_waits_8 : decode cX9_waits 8 = .ok (.iaload, 1) := by decide +kernel
theorem dX9_waits_9 : decode cX9_waits 9 = .ok (.ifCond .ne 7, 3) := by decide +kernel
theorem dX9_waits_12 : decode cX9_waits 12 = .ok (.iconst 1, 1) := by decide +kernel
theorem dX9_waits_13 : decode cX9_waits 13 = .ok (.goto 4, 3) := by decide +kernel
theorem dX9_waits_16 : decode cX9_waits 16 = .ok (.iconst 0, 1) := by decide +kernel
theorem dX9_waits_17 : decode cX9_waits 17 = .ok (.ireturn, 1) := by decide +kernel
theorem dX9_weight_0 : decode cX9_weight 0 = .ok (.aload_n 0, 1) := by decide +kernel
theorem dX9_weight_1 : decode cX9_weight 1 = .ok (.iload_n 1, 1) := by decide +kernel
theorem dX9_weight_2 : decode cX9_weight 2 = .ok (.invokevirtual 165, 3) := by decide +kernel
theorem dX9_weight_5 : decode cX9_weight 5 = .ok (.ifCond .eq 11, 3) := by decide +kernel
theorem dX9_weight_8 : decode cX9_weight 8 = .ok (.aload_n 0, 1) := by decide +kernel
theorem dX9_weight_9 : decode cX9_weight 9 = .ok (.iload_n 2, 1) := by decide +kernel
theorem dX9_weight_10 : decode cX9_weight 10 = .ok (.invokevirtual 155, 3) := by decide +kernel
theorem dX9_weight_13 : decode cX9_weight 13 = .ok (.ifCond .ne 5, 3) := by decide +kernel
theorem dX9_weight_16 : decode cX9_weight 16 = .ok (.iconst (-1), 1) := by decide +kernel
theorem dX9_weight_17 : decode cX9_weight 17 = .ok (.ireturn, 1) := by decide +kernel
theorem dX9_weight_18 : decode cX9_weight 18 = .ok (.aload_n 0, 1) := by decide +kernel
theorem dX9_weight_19 : decode cX9_weight 19 = .ok (.aload_n 0, 1) := by decide +kernel
theorem dX9_weight_20 : decode cX9_weight 20 = .ok (.getfield 16, 3) := by decide +kernel
theorem dX9_weight_23 : decode cX9_weight 23 = .ok (.iload_n 1, 1) := by decide +kernel
theorem dX9_weight_24 : decode cX9_weight 24 = .ok (.invokevirtual 183, 3) := by decide +kernel
theorem dX9_weight_27 : decode cX9_weight 27 = .ok (.aload_n 0, 1) := by decide +kernel
theorem dX9_weight_28 : decode cX9_weight 28 = .ok (.getfield 34, 3) := by decide +kernel
theorem dX9_weight_31 : decode cX9_weight 31 = .ok (.iload_n 2, 1) := by decide +kernel
theorem dX9_weight_32 : decode cX9_weight 32 = .ok (.iaload, 1) := by decide +kernel
theorem dX9_weight_33 : decode cX9_weight 33 = .ok (.ireturn, 1) := by decide +kernel
theorem dX9_lowest_0 : decode cX9_lowest 0 = .ok (.lload_n 1, 1) := by decide +kernel
theorem dX9_lowest_1 : decode cX9_lowest 1 = .ok (.lstore 5, 2) := by decide +kernel
theorem dX9_lowest_3 : decode cX9_lowest 3 = .ok (.lload_n 3, 1) := by decide +kernel
theorem dX9_lowest_4 : decode cX9_lowest 4 = .ok (.lstore 7, 2) := by decide +kernel
theorem dX9_lowest_6 : decode cX9_lowest 6 = .ok (.lload 7, 2) := by decide +kernel
theorem dX9_lowest_8 : decode cX9_lowest 8 = .ok (.lconst 0, 1) := by decide +kernel
theorem dX9_lowest_9 : decode cX9_lowest 9 = .ok (.lcmp, 1) := by decide +kernel
theorem dX9_lowest_10 : decode cX9_lowest 10 = .ok (.ifCond .eq 21, 3) := by decide +kernel
theorem dX9_lowest_13 : decode cX9_lowest 13 = .ok (.lload 5, 2) := by decide +kernel
theorem dX9_lowest_15 : decode cX9_lowest 15 = .ok (.lload 7, 2) := by decide +kernel
theorem dX9_lowest_17 : decode cX9_lowest 17 = .ok (.lrem, 1) := by decide +kernel
theorem dX9_lowest_18 : decode cX9_lowest 18 = .ok (.lstore 9, 2) := by decide +kernel
theorem dX9_lowest_20 : decode cX9_lowest 20 = .ok (.lload 7, 2) := by decide +kernel
theorem dX9_lowest_22 : decode cX9_lowest 22 = .ok (.lstore 5, 2) := by decide +kernel
theorem dX9_lowest_24 : decode cX9_lowest 24 = .ok (.lload 9, 2) := by decide +kernel
theorem dX9_lowest_26 : decode cX9_lowest 26 = .ok (.lstore 7, 2) := by decide +kernel
theorem dX9_lowest_28 : decode cX9_lowest 28 = .ok (.goto (-22), 3) := by decide +kernel
theorem dX9_lowest_31 : decode cX9_lowest 31 = .ok (.aload_n 0, 1) := by decide +kernel
theorem dX9_lowest_32 : decode cX9_lowest 32 = .ok (.lload_n 1, 1) := by decide +kernel
theorem dX9_lowest_33 : decode cX9_lowest 33 = .ok (.lload 5, 2) := by decide +kernel
theorem dX9_lowest_35 : decode cX9_lowest 35 = .ok (.ldiv, 1) := by decide +kernel
theorem dX9_lowest_36 : decode cX9_lowest 36 = .ok (.putfield 191, 3) := by decide +kernel
theorem dX9_lowest_39 : decode cX9_lowest 39 = .ok (.aload_n 0, 1) := by decide +kernel
theorem dX9_lowest_40 : decode cX9_lowest 40 = .ok (.lload_n 3, 1) := by decide +kernel
theorem dX9_lowest_41 : decode cX9_lowest 41 = .ok (.lload 5, 2) := by decide +kernel
theorem dX9_lowest_43 : decode cX9_lowest 43 = .ok (.ldiv, 1) := by decide +kernel
theorem dX9_lowest_44 : decode cX9_lowest 44 = .ok (.putfield 195, 3) := by decide +kernel
theorem dX9_lowest_47 : decode cX9_lowest 47 = .ok (.return_, 1) := by decide +kernel
theorem dX9_sumOf_0 : decode cX9_sumOf 0 = .ok (.lconst 0, 1) := by decide +kernel
theorem dX9_sumOf_1 : decode cX9_sumOf 1 = .ok (.lstore_n 2, 1) := by decide +kernel
theorem dX9_sumOf_2 : decode cX9_sumOf 2 = .ok (.iconst 0, 1) := by decide +kernel
theorem dX9_sumOf_3 : decode cX9_sumOf 3 = .ok (.istore 4, 2) := by decide +kernel
theorem dX9_sumOf_5 : decode cX9_sumOf 5 = .ok (.iload 4, 2) := by decide +kernel
theorem dX9_sumOf_7 : decode cX9_sumOf 7 = .ok (.aload_n 0, 1) := by decide +kernel
theorem dX9_sumOf_8 : decode cX9_sumOf 8 = .ok (.getfield 7, 3) := by decide +kernel
theorem dX9_sumOf_11 : decode cX9_sumOf 11 = .ok (.iconst 0, 1) := by decide +kernel
theorem dX9_sumOf_12 : decode cX9_sumOf 12 = .ok (.iaload, 1) := by decide +kernel
theorem dX9_sumOf_13 : decode cX9_sumOf 13 = .ok (.if_icmp .ge 17, 3) := by decide +kernel
theorem dX9_sumOf_16 : decode cX9_sumOf 16 = .ok (.lload_n 2, 1) := by decide +kernel
theorem dX9_sumOf_17 : decode cX9_sumOf 17 = .ok (.aload_n 1, 1) := by decide +kernel
theorem dX9_sumOf_18 : decode cX9_sumOf 18 = .ok (.iload 4, 2) := by decide +kernel
theorem dX9_sumOf_20 : decode cX9_sumOf 20 = .ok (.iaload, 1) := by decide +kernel
theorem dX9_sumOf_21 : decode cX9_sumOf 21 = .ok (.i2l, 1) := by decide +kernel
theorem dX9_sumOf_22 : decode cX9_sumOf 22 = .ok (.ladd, 1) := by decide +kernel
theorem dX9_sumOf_23 : decode cX9_sumOf 23 = .ok (.lstore_n 2, 1) := by decide +kernel
theorem dX9_sumOf_24 : decode cX9_sumOf 24 = .ok (.iinc 4 1, 3) := by decide +kernel
theorem dX9_sumOf_27 : decode cX9_sumOf 27 = .ok (.goto (-22), 3) := by decide +kernel
theorem dX9_sumOf_30 : decode cX9_sumOf 30 = .ok (.lload_n 2, 1) := by decide +kernel
theorem dX9_sumOf_31 : decode cX9_sumOf 31 = .ok (.lreturn, 1) := by decide +kernel
theorem dX9_likely_0 : decode cX9_likely 0 = .ok (.aload_n 0, 1) := by decide +kernel
theorem dX9_likely_1 : decode cX9_likely 1 = .ok (.iload_n 1, 1) := by decide +kernel
theorem dX9_likely_2 : decode cX9_likely 2 = .ok (.invokevirtual 165, 3) := by decide +kernel
theorem dX9_likely_5 : decode cX9_likely 5 = .ok (.ifCond .eq 21, 3) := by decide +kernel
theorem dX9_likely_8 : decode cX9_likely 8 = .ok (.aload_n 0, 1) := by decide +kernel
theorem dX9_likely_9 : decode cX9_likely 9 = .ok (.iload_n 2, 1) := by decide +kernel
theorem dX9_likely_10 : decode cX9_likely 10 = .ok (.invokevirtual 155, 3) := by decide +kernel
theorem dX9_likely_13 : decode cX9_likely 13 = .ok (.ifCond .eq 13, 3) := by decide +kernel
theorem dX9_likely_16 : decode cX9_likely 16 = .ok (.iload_n 3, 1) := by decide +kernel
theorem dX9_likely_17 : decode cX9_likely 17 = .ok (.i2l, 1) := by decide +kernel
theorem dX9_likely_18 : decode cX9_likely 18 = .ok (.lconst 0, 1) := by decide +kernel
theorem dX9_likely_19 : decode cX9_likely 19 = .ok (.lconst 1, 1) := by decide +kernel
theorem dX9_likely_20 : decode cX9_likely 20 = .ok (.invokestatic 82, 3) := by decide +kernel
theorem dX9_likely_23 : decode cX9_likely 23 = .ok (.ifCond .ne 5, 3) := by decide +kernel
theorem dX9_likely_26 : decode cX9_likely 26 = .ok (.iconst (-1), 1) := by decide +kernel
theorem dX9_likely_27 : decode cX9_likely 27 = .ok (.ireturn, 1) := by decide +kernel
theorem dX9_likely_28 : decode cX9_likely 28 = .ok (.aload_n 0, 1) := by decide +kernel
theorem dX9_likely_29 : decode cX9_likely 29 = .ok (.aload_n 0, 1) := by decide +kernel
theorem dX9_likely_30 : decode cX9_likely 30 = .ok (.getfield 16, 3) := by decide +kernel
theorem dX9_likely_33 : decode cX9_likely 33 = .ok (.iload_n 1, 1) := by decide +kernel
theorem dX9_likely_34 : decode cX9_likely 34 = .ok (.invokevirtual 183, 3) := by decide +kernel
theorem dX9_likely_37 : decode cX9_likely 37 = .ok (.aload_n 0, 1) := by decide +kernel
theorem dX9_likely_38 : decode cX9_likely 38 = .ok (.aload_n 0, 1) := by decide +kernel
theorem dX9_likely_39 : decode cX9_likely 39 = .ok (.getfield 34, 3) := by decide +kernel
theorem dX9_likely_42 : decode cX9_likely 42 = .ok (.invokevirtual 198, 3) := by decide +kernel
theorem dX9_likely_45 : decode cX9_likely 45 = .ok (.lstore 4, 2) := by decide +kernel
theorem dX9_likely_47 : decode cX9_likely 47 = .ok (.aload_n 0, 1) := by decide +kernel
theorem dX9_likely_48 : decode cX9_likely 48 = .ok (.aload_n 0, 1) := by decide +kernel
theorem dX9_likely_49 : decode cX9_likely 49 = .ok (.getfield 34, 3) := by decide +kernel
theorem dX9_likely_52 : decode cX9_likely 52 = .ok (.iload_n 2, 1) := by decide +kernel
theorem dX9_likely_53 : decode cX9_likely 53 = .ok (.iaload, 1) := by decide +kernel
theorem dX9_likely_54 : decode cX9_likely 54 = .ok (.i2l, 1) := by decide +kernel
theorem dX9_likely_55 : decode cX9_likely 55 = .ok (.lload 4, 2) := by decide +kernel
theorem dX9_likely_57 : decode cX9_likely 57 = .ok (.lconst 0, 1) := by decide +kernel
theorem dX9_likely_58 : decode cX9_likely 58 = .ok (.lcmp, 1) := by decide +kernel
theorem dX9_likely_59 : decode cX9_likely 59 = .ok (.ifCond .ne 7, 3) := by decide +kernel
theorem dX9_likely_62 : decode cX9_likely 62 = .ok (.lconst 1, 1) := by decide +kernel
theorem dX9_likely_63 : decode cX9_likely 63 = .ok (.goto 5, 3) := by decide +kernel
theorem dX9_likely_66 : decode cX9_likely 66 = .ok (.lload 4, 2) := by decide +kernel
theorem dX9_likely_68 : decode cX9_likely 68 = .ok (.invokevirtual 202, 3) := by decide +kernel
theorem dX9_likely_71 : decode cX9_likely 71 = .ok (.iload_n 3, 1) := by decide +kernel
theorem dX9_likely_72 : decode cX9_likely 72 = .ok (.ifCond .ne 10, 3) := by decide +kernel
theorem dX9_likely_75 : decode cX9_likely 75 = .ok (.aload_n 0, 1) := by decide +kernel
theorem dX9_likely_76 : decode cX9_likely 76 = .ok (.getfield 191, 3) := by decide +kernel
theorem dX9_likely_79 : decode cX9_likely 79 = .ok (.goto 7, 3) := by decide +kernel
theorem dX9_likely_82 : decode cX9_likely 82 = .ok (.aload_n 0, 1) := by decide +kernel
theorem dX9_likely_83 : decode cX9_likely 83 = .ok (.getfield 195, 3) := by decide +kernel
theorem dX9_likely_86 : decode cX9_likely 86 = .ok (.l2i, 1) := by decide +kernel
theorem dX9_likely_87 : decode cX9_likely 87 = .ok (.ireturn, 1) := by decide +kernel
theorem dX9_next_0 : decode cX9_next 0 = .ok (.aload_n 0, 1) := by decide +kernel
theorem dX9_next_1 : decode cX9_next 1 = .ok (.iload_n 1, 1) := by decide +kernel
theorem dX9_next_2 : decode cX9_next 2 = .ok (.invokevirtual 165, 3) := by decide +kernel
theorem dX9_next_5 : decode cX9_next 5 = .ok (.ifCond .ne 5, 3) := by decide +kernel
theorem dX9_next_8 : decode cX9_next 8 = .ok (.iconst (-1), 1) := by decide +kernel
theorem dX9_next_9 : decode cX9_next 9 = .ok (.ireturn, 1) := by decide +kernel
theorem dX9_next_10 : decode cX9_next 10 = .ok (.aload_n 0, 1) := by decide +kernel
theorem dX9_next_11 : decode cX9_next 11 = .ok (.iload_n 1, 1) := by decide +kernel
theorem dX9_next_12 : decode cX9_next 12 = .ok (.invokevirtual 206, 3) := by decide +kernel
theorem dX9_next_15 : decode cX9_next 15 = .ok (.ifCond .eq 15, 3) := by decide +kernel
theorem dX9_next_18 : decode cX9_next 18 = .ok (.aload_n 0, 1) := by decide +kernel
theorem dX9_next_19 : decode cX9_next 19 = .ok (.aload_n 0, 1) := by decide +kernel
theorem dX9_next_20 : decode cX9_next 20 = .ok (.getfield 16, 3) := by decide +kernel
theorem dX9_next_23 : decode cX9_next 23 = .ok (.iload_n 1, 1) := by decide +kernel
theorem dX9_next_24 : decode cX9_next 24 = .ok (.invokevirtual 209, 3) := by decide +kernel
theorem dX9_next_27 : decode cX9_next 27 = .ok (.goto 5, 3) := by decide +kernel
theorem dX9_next_30 : decode cX9_next 30 = .ok (.bipush (-2), 2) := by decide +kernel
theorem dX9_next_32 : decode cX9_next 32 = .ok (.ireturn, 1) := by decide +kernel
theorem dX9_remember_0 : decode cX9_remember 0 = .ok (.aload_n 0, 1) := by decide +kernel
theorem dX9_remember_1 : decode cX9_remember 1 = .ok (.getfield 68, 3) := by decide +kernel
theorem dX9_remember_4 : decode cX9_remember 4 = .ok (.bipush 8, 2) := by decide +kernel
theorem dX9_remember_6 : decode cX9_remember 6 = .ok (.if_icmp .ne 43, 3) := by decide +kernel
theorem dX9_remember_9 : decode cX9_remember 9 = .ok (.iconst 0, 1) := by decide +kernel
theorem dX9_remember_10 : decode cX9_remember 10 = .ok (.istore_n 1, 1) := by decide +kernel
theorem dX9_remember_11 : decode cX9_remember 11 = .ok (.iload_n 1, 1) := by decide +kernel
theorem dX9_remember_12 : decode cX9_remember 12 = .ok (.sipush 350, 3) := by decide +kernel
theorem dX9_remember_15 : decode cX9_remember 15 = .ok (.if_icmp .ge 24, 3) := by decide +kernel
theorem dX9_remember_18 : decode cX9_remember 18 = .ok (.aload_n 0, 1) := by decide +kernel
theorem dX9_remember_19 : decode cX9_remember 19 = .ok (.getfield 22, 3) := by decide +kernel
theorem dX9_remember_22 : decode cX9_remember 22 = .ok (.iload_n 1, 1) := by decide +kernel
theorem dX9_remember_23 : decode cX9_remember 23 = .ok (.aload_n 0, 1) := by decide +kernel
theorem dX9_remember_24 : decode cX9_remember 24 = .ok (.getfield 22, 3) := by decide +kernel
theorem dX9_remember_27 : decode cX9_remember 27 = .ok (.iload_n 1, 1) := by decide +kernel
theorem dX9_remember_28 : decode cX9_remember 28 = .ok (.bipush 50, 2) := by decide +kernel
theorem dX9_remember_30 : decode cX9_remember 30 = .ok (.iadd, 1) := by decide +kernel
theorem dX9_remember_31 : decode cX9_remember 31 = .ok (.iaload, 1) := by decide +kernel
theorem dX9_remember_32 : decode cX9_remember 32 = .ok (.iastore, 1) := by decide +kernel
theorem dX9_remember_33 : decode cX9_remember 33 = .ok (.iinc 1 1, 3) := by decide +kernel
theorem dX9_remember_36 : decode cX9_remember 36 = .ok (.goto (-25), 3) := by decide +kernel
theorem dX9_remember_39 : decode cX9_remember 39 = .ok (.aload_n 0, 1) := by decide +kernel
theorem dX9_remember_40 : decode cX9_remember 40 = .ok (.dup, 1) := by decide +kernel
theorem dX9_remember_41 : decode cX9_remember 41 = .ok (.getfield 68, 3) := by decide +kernel
theorem dX9_remember_44 : decode cX9_remember 44 = .ok (.iconst 1, 1) := by decide +kernel
theorem dX9_remember_45 : decode cX9_remember 45 = .ok (.isub, 1) := by decide +kernel
theorem dX9_remember_46 : decode cX9_remember 46 = .ok (.putfield 68, 3) := by decide +kernel
theorem dX9_remember_49 : decode cX9_remember 49 = .ok (.aload_n 0, 1) := by decide +kernel
theorem dX9_remember_50 : decode cX9_remember 50 = .ok (.getfield 16, 3) := by decide +kernel
theorem dX9_remember_53 : decode cX9_remember 53 = .ok (.iconst 0, 1) := by decide +kernel
theorem dX9_remember_54 : decode cX9_remember 54 = .ok (.aload_n 0, 1) := by decide +kernel
theorem dX9_remember_55 : decode cX9_remember 55 = .ok (.getfield 22, 3) := by decide +kernel
theorem dX9_remember_58 : decode cX9_remember 58 = .ok (.bipush 50, 2) := by decide +kernel
theorem dX9_remember_60 : decode cX9_remember 60 = .ok (.aload_n 0, 1) := by decide +kernel
theorem dX9_remember_61 : decode cX9_remember 61 = .ok (.getfield 68, 3) := by decide +kernel
theorem dX9_remember_64 : decode cX9_remember 64 = .ok (.imul, 1) := by decide +kernel
theorem dX9_remember_65 : decode cX9_remember 65 = .ok (.bipush 50, 2) := by decide +kernel
theorem dX9_remember_67 : decode cX9_remember 67 = .ok (.invokestatic 148, 3) := by decide +kernel
theorem dX9_remember_70 : decode cX9_remember 70 = .ok (.aload_n 0, 1) := by decide +kernel
theorem dX9_remember_71 : decode cX9_remember 71 = .ok (.dup, 1) := by decide +kernel
theorem dX9_remember_72 : decode cX9_remember 72 = .ok (.getfield 68, 3) := by decide +kernel
theorem dX9_remember_75 : decode cX9_remember 75 = .ok (.iconst 1, 1) := by decide +kernel
theorem dX9_remember_76 : decode cX9_remember 76 = .ok (.iadd, 1) := by decide +kernel
theorem dX9_remember_77 : decode cX9_remember 77 = .ok (.putfield 68, 3) := by decide +kernel
theorem dX9_remember_80 : decode cX9_remember 80 = .ok (.return_, 1) := by decide +kernel
theorem dX9_mayShow_0 : decode cX9_mayShow 0 = .ok (.aload_n 0, 1) := by decide +kernel
theorem dX9_mayShow_1 : decode cX9_mayShow 1 = .ok (.bipush 20, 2) := by decide +kernel
theorem dX9_mayShow_3 : decode cX9_mayShow 3 = .ok (.iload_n 1, 1) := by decide +kernel
theorem dX9_mayShow_4 : decode cX9_mayShow 4 = .ok (.iadd, 1) := by decide +kernel
theorem dX9_mayShow_5 : decode cX9_mayShow 5 = .ok (.iaload, 1) := by decide +kernel
theorem dX9_mayShow_6 : decode cX9_mayShow 6 = .ok (.ifCond .ne 17, 3) := by decide +kernel
theorem dX9_mayShow_9 : decode cX9_mayShow 9 = .ok (.aload_n 0, 1) := by decide +kernel
theorem dX9_mayShow_10 : decode cX9_mayShow 10 = .ok (.bipush 10, 2) := by decide +kernel
theorem dX9_mayShow_12 : decode cX9_mayShow 12 = .ok (.iload_n 1, 1) := by decide +kernel
theorem dX9_mayShow_13 : decode cX9_mayShow 13 = .ok (.iadd, 1) := by decide +kernel
theorem dX9_mayShow_14 : decode cX9_mayShow 14 = .ok (.iaload, 1) := by decide +kernel
theorem dX9_mayShow_15 : decode cX9_mayShow 15 = .ok (.iconst 5, 1) := by decide +kernel
theorem dX9_mayShow_16 : decode cX9_mayShow 16 = .ok (.if_icmp .ge 7, 3) := by decide +kernel
theorem dX9_mayShow_19 : decode cX9_mayShow 19 = .ok (.iconst 1, 1) := by decide +kernel
theorem dX9_mayShow_20 : decode cX9_mayShow 20 = .ok (.goto 4, 3) := by decide +kernel
theorem dX9_mayShow_23 : decode cX9_mayShow 23 = .ok (.iconst 0, 1) := by decide +kernel
theorem dX9_mayShow_24 : decode cX9_mayShow 24 = .ok (.ireturn, 1) := by decide +kernel
theorem dX9_shows_0 : decode cX9_shows 0 = .ok (.aload_n 0, 1) := by decide +kernel
theorem dX9_shows_1 : decode cX9_shows 1 = .ok (.getfield 7, 3) := by decide +kernel
theorem dX9_shows_4 : decode cX9_shows 4 = .ok (.iconst 3, 1) := by decide +kernel
theorem dX9_shows_5 : decode cX9_shows 5 = .ok (.iaload, 1) := by decide +kernel
theorem dX9_shows_6 : decode cX9_shows 6 = .ok (.iload_n 3, 1) := by decide +kernel
theorem dX9_shows_7 : decode cX9_shows 7 = .ok (.invokestatic 120, 3) := by decide +kernel
theorem dX9_shows_10 : decode cX9_shows 10 = .ok (.ifCond .eq 12, 3) := by decide +kernel
theorem dX9_shows_13 : decode cX9_shows 13 = .ok (.aload_n 1, 1) := by decide +kernel
theorem dX9_shows_14 : decode cX9_shows 14 = .ok (.bipush 20, 2) := by decide +kernel
theorem dX9_shows_16 : decode cX9_shows 16 = .ok (.iload_n 2, 1) := by decide +kernel
theorem dX9_shows_17 : decode cX9_shows 17 = .ok (.iadd, 1) := by decide +kernel
theorem dX9_shows_18 : decode cX9_shows 18 = .ok (.iconst 3, 1) := by decide +kernel
theorem dX9_shows_19 : decode cX9_shows 19 = .ok (.iastore, 1) := by decide +kernel
theorem dX9_shows_20 : decode cX9_shows 20 = .ok (.iconst 0, 1) := by decide +kernel
theorem dX9_shows_21 : decode cX9_shows 21 = .ok (.ireturn, 1) := by decide +kernel
theorem dX9_shows_22 : decode cX9_shows 22 = .ok (.aload_n 1, 1) := by decide +kernel
theorem dX9_shows_23 : decode cX9_shows 23 = .ok (.bipush 25, 2) := by decide +kernel
theorem dX9_shows_25 : decode cX9_shows 25 = .ok (.iconst 5, 1) := by decide +kernel
theorem dX9_shows_26 : decode cX9_shows 26 = .ok (.iload_n 2, 1) := by decide +kernel
theorem dX9_shows_27 : decode cX9_shows 27 = .ok (.imul, 1) := by decide +kernel
theorem dX9_shows_28 : decode cX9_shows 28 = .ok (.iadd, 1) := by decide +kernel
