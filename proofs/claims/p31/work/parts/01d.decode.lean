theorem dX9_shows_29 : decode cX9_shows 29 = .ok (.aload_n 1, 1) := by decide +kernel
theorem dX9_shows_30 : decode cX9_shows 30 = .ok (.bipush 10, 2) := by decide +kernel
theorem dX9_shows_32 : decode cX9_shows 32 = .ok (.iload_n 2, 1) := by decide +kernel
theorem dX9_shows_33 : decode cX9_shows 33 = .ok (.iadd, 1) := by decide +kernel
theorem dX9_shows_34 : decode cX9_shows 34 = .ok (.iaload, 1) := by decide +kernel
theorem dX9_shows_35 : decode cX9_shows 35 = .ok (.iadd, 1) := by decide +kernel
theorem dX9_shows_36 : decode cX9_shows 36 = .ok (.iload_n 3, 1) := by decide +kernel
theorem dX9_shows_37 : decode cX9_shows 37 = .ok (.iastore, 1) := by decide +kernel
theorem dX9_shows_38 : decode cX9_shows 38 = .ok (.aload_n 1, 1) := by decide +kernel
theorem dX9_shows_39 : decode cX9_shows 39 = .ok (.bipush 10, 2) := by decide +kernel
theorem dX9_shows_41 : decode cX9_shows 41 = .ok (.iload_n 2, 1) := by decide +kernel
theorem dX9_shows_42 : decode cX9_shows 42 = .ok (.iadd, 1) := by decide +kernel
theorem dX9_shows_43 : decode cX9_shows 43 = .ok (.dup2, 1) := by decide +kernel
theorem dX9_shows_44 : decode cX9_shows 44 = .ok (.iaload, 1) := by decide +kernel
theorem dX9_shows_45 : decode cX9_shows 45 = .ok (.iconst 1, 1) := by decide +kernel
theorem dX9_shows_46 : decode cX9_shows 46 = .ok (.iadd, 1) := by decide +kernel
theorem dX9_shows_47 : decode cX9_shows 47 = .ok (.iastore, 1) := by decide +kernel
theorem dX9_shows_48 : decode cX9_shows 48 = .ok (.iconst 1, 1) := by decide +kernel
theorem dX9_shows_49 : decode cX9_shows 49 = .ok (.ireturn, 1) := by decide +kernel
theorem dX9_show_0 : decode cX9_show 0 = .ok (.aload_n 0, 1) := by decide +kernel
theorem dX9_show_1 : decode cX9_show 1 = .ok (.iload_n 1, 1) := by decide +kernel
theorem dX9_show_2 : decode cX9_show 2 = .ok (.invokevirtual 165, 3) := by decide +kernel
theorem dX9_show_5 : decode cX9_show 5 = .ok (.ifCond .eq 11, 3) := by decide +kernel
theorem dX9_show_8 : decode cX9_show 8 = .ok (.aload_n 0, 1) := by decide +kernel
theorem dX9_show_9 : decode cX9_show 9 = .ok (.iload_n 2, 1) := by decide +kernel
theorem dX9_show_10 : decode cX9_show 10 = .ok (.invokevirtual 162, 3) := by decide +kernel
theorem dX9_show_13 : decode cX9_show 13 = .ok (.ifCond .ne 5, 3) := by decide +kernel
theorem dX9_show_16 : decode cX9_show 16 = .ok (.iconst (-1), 1) := by decide +kernel
theorem dX9_show_17 : decode cX9_show 17 = .ok (.ireturn, 1) := by decide +kernel
theorem dX9_show_18 : decode cX9_show 18 = .ok (.aload_n 0, 1) := by decide +kernel
theorem dX9_show_19 : decode cX9_show 19 = .ok (.getfield 16, 3) := by decide +kernel
theorem dX9_show_22 : decode cX9_show 22 = .ok (.iload_n 1, 1) := by decide +kernel
theorem dX9_show_23 : decode cX9_show 23 = .ok (.invokestatic 213, 3) := by decide +kernel
theorem dX9_show_26 : decode cX9_show 26 = .ok (.ifCond .ne 6, 3) := by decide +kernel
theorem dX9_show_29 : decode cX9_show 29 = .ok (.bipush (-2), 2) := by decide +kernel
theorem dX9_show_31 : decode cX9_show 31 = .ok (.ireturn, 1) := by decide +kernel
theorem dX9_show_32 : decode cX9_show 32 = .ok (.aload_n 0, 1) := by decide +kernel
theorem dX9_show_33 : decode cX9_show 33 = .ok (.invokevirtual 217, 3) := by decide +kernel
theorem dX9_show_36 : decode cX9_show 36 = .ok (.aload_n 0, 1) := by decide +kernel
theorem dX9_show_37 : decode cX9_show 37 = .ok (.aload_n 0, 1) := by decide +kernel
theorem dX9_show_38 : decode cX9_show 38 = .ok (.getfield 16, 3) := by decide +kernel
theorem dX9_show_41 : decode cX9_show 41 = .ok (.iload_n 1, 1) := by decide +kernel
theorem dX9_show_42 : decode cX9_show 42 = .ok (.iload_n 2, 1) := by decide +kernel
theorem dX9_show_43 : decode cX9_show 43 = .ok (.invokevirtual 220, 3) := by decide +kernel
theorem dX9_show_46 : decode cX9_show 46 = .ok (.ireturn, 1) := by decide +kernel
theorem dX9_guesses_0 : decode cX9_guesses 0 = .ok (.aload_n 0, 1) := by decide +kernel
theorem dX9_guesses_1 : decode cX9_guesses 1 = .ok (.aload_n 1, 1) := by decide +kernel
theorem dX9_guesses_2 : decode cX9_guesses 2 = .ok (.iload_n 2, 1) := by decide +kernel
theorem dX9_guesses_3 : decode cX9_guesses 3 = .ok (.invokevirtual 209, 3) := by decide +kernel
theorem dX9_guesses_6 : decode cX9_guesses 6 = .ok (.istore_n 3, 1) := by decide +kernel
theorem dX9_guesses_7 : decode cX9_guesses 7 = .ok (.aload_n 0, 1) := by decide +kernel
theorem dX9_guesses_8 : decode cX9_guesses 8 = .ok (.iconst 0, 1) := by decide +kernel
theorem dX9_guesses_9 : decode cX9_guesses 9 = .ok (.putfield 224, 3) := by decide +kernel
theorem dX9_guesses_12 : decode cX9_guesses 12 = .ok (.iload_n 3, 1) := by decide +kernel
theorem dX9_guesses_13 : decode cX9_guesses 13 = .ok (.bipush (-4), 2) := by decide +kernel
theorem dX9_guesses_15 : decode cX9_guesses 15 = .ok (.if_icmp .ne 13, 3) := by decide +kernel
theorem dX9_guesses_18 : decode cX9_guesses 18 = .ok (.aload_n 1, 1) := by decide +kernel
theorem dX9_guesses_19 : decode cX9_guesses 19 = .ok (.bipush 20, 2) := by decide +kernel
theorem dX9_guesses_21 : decode cX9_guesses 21 = .ok (.iload_n 2, 1) := by decide +kernel
theorem dX9_guesses_22 : decode cX9_guesses 22 = .ok (.iadd, 1) := by decide +kernel
theorem dX9_guesses_23 : decode cX9_guesses 23 = .ok (.iconst 2, 1) := by decide +kernel
theorem dX9_guesses_24 : decode cX9_guesses 24 = .ok (.iastore, 1) := by decide +kernel
theorem dX9_guesses_25 : decode cX9_guesses 25 = .ok (.goto 127, 3) := by decide +kernel
theorem dX9_guesses_28 : decode cX9_guesses 28 = .ok (.iload_n 3, 1) := by decide +kernel
theorem dX9_guesses_29 : decode cX9_guesses 29 = .ok (.aload_n 1, 1) := by decide +kernel
theorem dX9_guesses_30 : decode cX9_guesses 30 = .ok (.iconst 0, 1) := by decide +kernel
theorem dX9_guesses_31 : decode cX9_guesses 31 = .ok (.iload_n 2, 1) := by decide +kernel
theorem dX9_guesses_32 : decode cX9_guesses 32 = .ok (.iadd, 1) := by decide +kernel
theorem dX9_guesses_33 : decode cX9_guesses 33 = .ok (.iaload, 1) := by decide +kernel
theorem dX9_guesses_34 : decode cX9_guesses 34 = .ok (.if_icmp .ne 82, 3) := by decide +kernel
theorem dX9_guesses_37 : decode cX9_guesses 37 = .ok (.aload_n 0, 1) := by decide +kernel
theorem dX9_guesses_38 : decode cX9_guesses 38 = .ok (.getfield 7, 3) := by decide +kernel
theorem dX9_guesses_41 : decode cX9_guesses 41 = .ok (.bipush 6, 2) := by decide +kernel
theorem dX9_guesses_43 : decode cX9_guesses 43 = .ok (.iaload, 1) := by decide +kernel
theorem dX9_guesses_44 : decode cX9_guesses 44 = .ok (.aload_n 1, 1) := by decide +kernel
theorem dX9_guesses_45 : decode cX9_guesses 45 = .ok (.bipush 10, 2) := by decide +kernel
theorem dX9_guesses_47 : decode cX9_guesses 47 = .ok (.iload_n 2, 1) := by decide +kernel
theorem dX9_guesses_48 : decode cX9_guesses 48 = .ok (.iadd, 1) := by decide +kernel
theorem dX9_guesses_49 : decode cX9_guesses 49 = .ok (.iaload, 1) := by decide +kernel
theorem dX9_guesses_50 : decode cX9_guesses 50 = .ok (.imul, 1) := by decide +kernel
theorem dX9_guesses_51 : decode cX9_guesses 51 = .ok (.istore 4, 2) := by decide +kernel
theorem dX9_guesses_53 : decode cX9_guesses 53 = .ok (.aload_n 1, 1) := by decide +kernel
theorem dX9_guesses_54 : decode cX9_guesses 54 = .ok (.iconst 5, 1) := by decide +kernel
theorem dX9_guesses_55 : decode cX9_guesses 55 = .ok (.iload_n 2, 1) := by decide +kernel
theorem dX9_guesses_56 : decode cX9_guesses 56 = .ok (.iadd, 1) := by decide +kernel
theorem dX9_guesses_57 : decode cX9_guesses 57 = .ok (.iaload, 1) := by decide +kernel
theorem dX9_guesses_58 : decode cX9_guesses 58 = .ok (.iload 4, 2) := by decide +kernel
theorem dX9_guesses_60 : decode cX9_guesses 60 = .ok (.if_icmp .lt 7, 3) := by decide +kernel
theorem dX9_guesses_63 : decode cX9_guesses 63 = .ok (.iconst 1, 1) := by decide +kernel
theorem dX9_guesses_64 : decode cX9_guesses 64 = .ok (.goto 4, 3) := by decide +kernel
theorem dX9_guesses_67 : decode cX9_guesses 67 = .ok (.iconst 0, 1) := by decide +kernel
theorem dX9_guesses_68 : decode cX9_guesses 68 = .ok (.istore 5, 2) := by decide +kernel
theorem dX9_guesses_70 : decode cX9_guesses 70 = .ok (.aload_n 0, 1) := by decide +kernel
theorem dX9_guesses_71 : decode cX9_guesses 71 = .ok (.iload 5, 2) := by decide +kernel
theorem dX9_guesses_73 : decode cX9_guesses 73 = .ok (.ifCond .eq 8, 3) := by decide +kernel
theorem dX9_guesses_76 : decode cX9_guesses 76 = .ok (.iload 4, 2) := by decide +kernel
theorem dX9_guesses_78 : decode cX9_guesses 78 = .ok (.goto 4, 3) := by decide +kernel
theorem dX9_guesses_81 : decode cX9_guesses 81 = .ok (.iconst 0, 1) := by decide +kernel
theorem dX9_guesses_82 : decode cX9_guesses 82 = .ok (.putfield 224, 3) := by decide +kernel
theorem dX9_guesses_85 : decode cX9_guesses 85 = .ok (.aload_n 1, 1) := by decide +kernel
theorem dX9_guesses_86 : decode cX9_guesses 86 = .ok (.iconst 5, 1) := by decide +kernel
theorem dX9_guesses_87 : decode cX9_guesses 87 = .ok (.iload_n 2, 1) := by decide +kernel
theorem dX9_guesses_88 : decode cX9_guesses 88 = .ok (.iadd, 1) := by decide +kernel
theorem dX9_guesses_89 : decode cX9_guesses 89 = .ok (.dup2, 1) := by decide +kernel
theorem dX9_guesses_90 : decode cX9_guesses 90 = .ok (.iaload, 1) := by decide +kernel
theorem dX9_guesses_91 : decode cX9_guesses 91 = .ok (.aload_n 0, 1) := by decide +kernel
theorem dX9_guesses_92 : decode cX9_guesses 92 = .ok (.getfield 224, 3) := by decide +kernel
theorem dX9_guesses_95 : decode cX9_guesses 95 = .ok (.isub, 1) := by decide +kernel
theorem dX9_guesses_96 : decode cX9_guesses 96 = .ok (.iastore, 1) := by decide +kernel
theorem dX9_guesses_97 : decode cX9_guesses 97 = .ok (.aload_n 1, 1) := by decide +kernel
theorem dX9_guesses_98 : decode cX9_guesses 98 = .ok (.bipush 20, 2) := by decide +kernel
theorem dX9_guesses_100 : decode cX9_guesses 100 = .ok (.iload_n 2, 1) := by decide +kernel
theorem dX9_guesses_101 : decode cX9_guesses 101 = .ok (.iadd, 1) := by decide +kernel
theorem dX9_guesses_102 : decode cX9_guesses 102 = .ok (.iload 5, 2) := by decide +kernel
theorem dX9_guesses_104 : decode cX9_guesses 104 = .ok (.ifCond .eq 7, 3) := by decide +kernel
theorem dX9_guesses_107 : decode cX9_guesses 107 = .ok (.iconst 1, 1) := by decide +kernel
theorem dX9_guesses_108 : decode cX9_guesses 108 = .ok (.goto 4, 3) := by decide +kernel
theorem dX9_guesses_111 : decode cX9_guesses 111 = .ok (.iconst 2, 1) := by decide +kernel
theorem dX9_guesses_112 : decode cX9_guesses 112 = .ok (.iastore, 1) := by decide +kernel
theorem dX9_guesses_113 : decode cX9_guesses 113 = .ok (.goto 39, 3) := by decide +kernel
theorem dX9_guesses_116 : decode cX9_guesses 116 = .ok (.aload_n 1, 1) := by decide +kernel
theorem dX9_guesses_117 : decode cX9_guesses 117 = .ok (.bipush 15, 2) := by decide +kernel
theorem dX9_guesses_119 : decode cX9_guesses 119 = .ok (.iload_n 2, 1) := by decide +kernel
theorem dX9_guesses_120 : decode cX9_guesses 120 = .ok (.iadd, 1) := by decide +kernel
theorem dX9_guesses_121 : decode cX9_guesses 121 = .ok (.dup2, 1) := by decide +kernel
theorem dX9_guesses_122 : decode cX9_guesses 122 = .ok (.iaload, 1) := by decide +kernel
theorem dX9_guesses_123 : decode cX9_guesses 123 = .ok (.iconst 1, 1) := by decide +kernel
theorem dX9_guesses_124 : decode cX9_guesses 124 = .ok (.iload_n 3, 1) := by decide +kernel
theorem dX9_guesses_125 : decode cX9_guesses 125 = .ok (.ishl, 1) := by decide +kernel
theorem dX9_guesses_126 : decode cX9_guesses 126 = .ok (.ior, 1) := by decide +kernel
theorem dX9_guesses_127 : decode cX9_guesses 127 = .ok (.iastore, 1) := by decide +kernel
theorem dX9_guesses_128 : decode cX9_guesses 128 = .ok (.aload_n 1, 1) := by decide +kernel
theorem dX9_guesses_129 : decode cX9_guesses 129 = .ok (.bipush 20, 2) := by decide +kernel
theorem dX9_guesses_131 : decode cX9_guesses 131 = .ok (.iload_n 2, 1) := by decide +kernel
theorem dX9_guesses_132 : decode cX9_guesses 132 = .ok (.iadd, 1) := by decide +kernel
theorem dX9_guesses_133 : decode cX9_guesses 133 = .ok (.aload_n 1, 1) := by decide +kernel
theorem dX9_guesses_134 : decode cX9_guesses 134 = .ok (.bipush 15, 2) := by decide +kernel
theorem dX9_guesses_136 : decode cX9_guesses 136 = .ok (.iload_n 2, 1) := by decide +kernel
theorem dX9_guesses_137 : decode cX9_guesses 137 = .ok (.iadd, 1) := by decide +kernel
theorem dX9_guesses_138 : decode cX9_guesses 138 = .ok (.iaload, 1) := by decide +kernel
theorem dX9_guesses_139 : decode cX9_guesses 139 = .ok (.invokestatic 227, 3) := by decide +kernel
theorem dX9_guesses_142 : decode cX9_guesses 142 = .ok (.iconst 3, 1) := by decide +kernel
theorem dX9_guesses_143 : decode cX9_guesses 143 = .ok (.if_icmp .ne 7, 3) := by decide +kernel
theorem dX9_guesses_146 : decode cX9_guesses 146 = .ok (.iconst 2, 1) := by decide +kernel
theorem dX9_guesses_147 : decode cX9_guesses 147 = .ok (.goto 4, 3) := by decide +kernel
theorem dX9_guesses_150 : decode cX9_guesses 150 = .ok (.iconst 0, 1) := by decide +kernel
theorem dX9_guesses_151 : decode cX9_guesses 151 = .ok (.iastore, 1) := by decide +kernel
theorem dX9_guesses_152 : decode cX9_guesses 152 = .ok (.iload_n 3, 1) := by decide +kernel
theorem dX9_guesses_153 : decode cX9_guesses 153 = .ok (.ireturn, 1) := by decide +kernel
theorem dX9_guess_0 : decode cX9_guess 0 = .ok (.aload_n 0, 1) := by decide +kernel
theorem dX9_guess_1 : decode cX9_guess 1 = .ok (.iload_n 1, 1) := by decide +kernel
theorem dX9_guess_2 : decode cX9_guess 2 = .ok (.invokevirtual 165, 3) := by decide +kernel
theorem dX9_guess_5 : decode cX9_guess 5 = .ok (.ifCond .ne 5, 3) := by decide +kernel
theorem dX9_guess_8 : decode cX9_guess 8 = .ok (.iconst (-1), 1) := by decide +kernel
theorem dX9_guess_9 : decode cX9_guess 9 = .ok (.ireturn, 1) := by decide +kernel
theorem dX9_guess_10 : decode cX9_guess 10 = .ok (.aload_n 0, 1) := by decide +kernel
theorem dX9_guess_11 : decode cX9_guess 11 = .ok (.iload_n 1, 1) := by decide +kernel
theorem dX9_guess_12 : decode cX9_guess 12 = .ok (.invokevirtual 206, 3) := by decide +kernel
theorem dX9_guess_15 : decode cX9_guess 15 = .ok (.ifCond .ne 6, 3) := by decide +kernel
theorem dX9_guess_18 : decode cX9_guess 18 = .ok (.bipush (-2), 2) := by decide +kernel
theorem dX9_guess_20 : decode cX9_guess 20 = .ok (.ireturn, 1) := by decide +kernel
theorem dX9_guess_21 : decode cX9_guess 21 = .ok (.aload_n 0, 1) := by decide +kernel
theorem dX9_guess_22 : decode cX9_guess 22 = .ok (.invokevirtual 217, 3) := by decide +kernel
theorem dX9_guess_25 : decode cX9_guess 25 = .ok (.aload_n 0, 1) := by decide +kernel
theorem dX9_guess_26 : decode cX9_guess 26 = .ok (.aload_n 0, 1) := by decide +kernel
theorem dX9_guess_27 : decode cX9_guess 27 = .ok (.getfield 16, 3) := by decide +kernel
theorem dX9_guess_30 : decode cX9_guess 30 = .ok (.iload_n 1, 1) := by decide +kernel
theorem dX9_guess_31 : decode cX9_guess 31 = .ok (.invokevirtual 230, 3) := by decide +kernel
theorem dX9_guess_34 : decode cX9_guess 34 = .ok (.ireturn, 1) := by decide +kernel
theorem dX9_isFresh_0 : decode cX9_isFresh 0 = .ok (.aload_n 0, 1) := by decide +kernel
theorem dX9_isFresh_1 : decode cX9_isFresh 1 = .ok (.iload_n 1, 1) := by decide +kernel
theorem dX9_isFresh_2 : decode cX9_isFresh 2 = .ok (.invokevirtual 206, 3) := by decide +kernel
theorem dX9_isFresh_5 : decode cX9_isFresh 5 = .ok (.ifCond .eq 19, 3) := by decide +kernel
theorem dX9_isFresh_8 : decode cX9_isFresh 8 = .ok (.aload_n 0, 1) := by decide +kernel
theorem dX9_isFresh_9 : decode cX9_isFresh 9 = .ok (.getfield 16, 3) := by decide +kernel
theorem dX9_isFresh_12 : decode cX9_isFresh 12 = .ok (.bipush 10, 2) := by decide +kernel
theorem dX9_isFresh_14 : decode cX9_isFresh 14 = .ok (.iload_n 1, 1) := by decide +kernel
theorem dX9_isFresh_15 : decode cX9_isFresh 15 = .ok (.iadd, 1) := by decide +kernel
theorem dX9_isFresh_16 : decode cX9_isFresh 16 = .ok (.iaload, 1) := by decide +kernel
theorem dX9_isFresh_17 : decode cX9_isFresh 17 = .ok (.ifCond .ne 7, 3) := by decide +kernel
theorem dX9_isFresh_20 : decode cX9_isFresh 20 = .ok (.iconst 1, 1) := by decide +kernel
theorem dX9_isFresh_21 : decode cX9_isFresh 21 = .ok (.goto 4, 3) := by decide +kernel
theorem dX9_isFresh_24 : decode cX9_isFresh 24 = .ok (.iconst 0, 1) := by decide +kernel
theorem dX9_isFresh_25 : decode cX9_isFresh 25 = .ok (.ireturn, 1) := by decide +kernel
theorem dX9_change_0 : decode cX9_change 0 = .ok (.aload_n 0, 1) := by decide +kernel
theorem dX9_change_1 : decode cX9_change 1 = .ok (.iload_n 1, 1) := by decide +kernel
theorem dX9_change_2 : decode cX9_change 2 = .ok (.invokevirtual 165, 3) := by decide +kernel
theorem dX9_change_5 : decode cX9_change 5 = .ok (.ifCond .eq 16, 3) := by decide +kernel
theorem dX9_change_8 : decode cX9_change 8 = .ok (.aload_n 0, 1) := by decide +kernel
theorem dX9_change_9 : decode cX9_change 9 = .ok (.iload_n 2, 1) := by decide +kernel
theorem dX9_change_10 : decode cX9_change 10 = .ok (.invokevirtual 165, 3) := by decide +kernel
theorem dX9_change_13 : decode cX9_change 13 = .ok (.ifCond .eq 8, 3) := by decide +kernel
theorem dX9_change_16 : decode cX9_change 16 = .ok (.iload_n 1, 1) := by decide +kernel
theorem dX9_change_17 : decode cX9_change 17 = .ok (.iload_n 2, 1) := by decide +kernel
theorem dX9_change_18 : decode cX9_change 18 = .ok (.if_icmp .ne 5, 3) := by decide +kernel
theorem dX9_change_21 : decode cX9_change 21 = .ok (.iconst (-1), 1) := by decide +kernel
theorem dX9_change_22 : decode cX9_change 22 = .ok (.ireturn, 1) := by decide +kernel
theorem dX9_change_23 : decode cX9_change 23 = .ok (.aload_n 0, 1) := by decide +kernel
theorem dX9_change_24 : decode cX9_change 24 = .ok (.iload_n 1, 1) := by decide +kernel
theorem dX9_change_25 : decode cX9_change 25 = .ok (.invokevirtual 233, 3) := by decide +kernel
theorem dX9_change_28 : decode cX9_change 28 = .ok (.ifCond .eq 11, 3) := by decide +kernel
theorem dX9_change_31 : decode cX9_change 31 = .ok (.aload_n 0, 1) := by decide +kernel
theorem dX9_change_32 : decode cX9_change 32 = .ok (.iload_n 2, 1) := by decide +kernel
theorem dX9_change_33 : decode cX9_change 33 = .ok (.invokevirtual 233, 3) := by decide +kernel
theorem dX9_change_36 : decode cX9_change 36 = .ok (.ifCond .ne 6, 3) := by decide +kernel
theorem dX9_change_39 : decode cX9_change 39 = .ok (.bipush (-2), 2) := by decide +kernel
theorem dX9_change_41 : decode cX9_change 41 = .ok (.ireturn, 1) := by decide +kernel
theorem dX9_change_42 : decode cX9_change 42 = .ok (.aload_n 0, 1) := by decide +kernel
theorem dX9_change_43 : decode cX9_change 43 = .ok (.invokevirtual 217, 3) := by decide +kernel
theorem dX9_change_46 : decode cX9_change 46 = .ok (.aload_n 0, 1) := by decide +kernel
theorem dX9_change_47 : decode cX9_change 47 = .ok (.getfield 16, 3) := by decide +kernel
theorem dX9_change_50 : decode cX9_change 50 = .ok (.iconst 0, 1) := by decide +kernel
theorem dX9_change_51 : decode cX9_change 51 = .ok (.iload_n 1, 1) := by decide +kernel
theorem dX9_change_52 : decode cX9_change 52 = .ok (.iadd, 1) := by decide +kernel
theorem dX9_change_53 : decode cX9_change 53 = .ok (.iaload, 1) := by decide +kernel
theorem dX9_change_54 : decode cX9_change 54 = .ok (.istore_n 3, 1) := by decide +kernel
theorem dX9_change_55 : decode cX9_change 55 = .ok (.aload_n 0, 1) := by decide +kernel
theorem dX9_change_56 : decode cX9_change 56 = .ok (.getfield 16, 3) := by decide +kernel
theorem dX9_change_59 : decode cX9_change 59 = .ok (.iconst 0, 1) := by decide +kernel
theorem dX9_change_60 : decode cX9_change 60 = .ok (.iload_n 1, 1) := by decide +kernel
theorem dX9_change_61 : decode cX9_change 61 = .ok (.iadd, 1) := by decide +kernel
theorem dX9_change_62 : decode cX9_change 62 = .ok (.aload_n 0, 1) := by decide +kernel
theorem dX9_change_63 : decode cX9_change 63 = .ok (.getfield 16, 3) := by decide +kernel
theorem dX9_change_66 : decode cX9_change 66 = .ok (.iconst 0, 1) := by decide +kernel
theorem dX9_change_67 : decode cX9_change 67 = .ok (.iload_n 2, 1) := by decide +kernel
theorem dX9_change_68 : decode cX9_change 68 = .ok (.iadd, 1) := by decide +kernel
theorem dX9_change_69 : decode cX9_change 69 = .ok (.iaload, 1) := by decide +kernel
theorem dX9_change_70 : decode cX9_change 70 = .ok (.iastore, 1) := by decide +kernel
theorem dX9_change_71 : decode cX9_change 71 = .ok (.aload_n 0, 1) := by decide +kernel
theorem dX9_change_72 : decode cX9_change 72 = .ok (.getfield 16, 3) := by decide +kernel
theorem dX9_change_75 : decode cX9_change 75 = .ok (.iconst 0, 1) := by decide +kernel
theorem dX9_change_76 : decode cX9_change 76 = .ok (.iload_n 2, 1) := by decide +kernel
theorem dX9_change_77 : decode cX9_change 77 = .ok (.iadd, 1) := by decide +kernel
theorem dX9_change_78 : decode cX9_change 78 = .ok (.iload_n 3, 1) := by decide +kernel
theorem dX9_change_79 : decode cX9_change 79 = .ok (.iastore, 1) := by decide +kernel
theorem dX9_change_80 : decode cX9_change 80 = .ok (.aload_n 0, 1) := by decide +kernel
theorem dX9_change_81 : decode cX9_change 81 = .ok (.getfield 16, 3) := by decide +kernel
theorem dX9_change_84 : decode cX9_change 84 = .ok (.iconst 0, 1) := by decide +kernel
theorem dX9_change_85 : decode cX9_change 85 = .ok (.iload_n 1, 1) := by decide +kernel
theorem dX9_change_86 : decode cX9_change 86 = .ok (.iadd, 1) := by decide +kernel
theorem dX9_change_87 : decode cX9_change 87 = .ok (.iaload, 1) := by decide +kernel
theorem dX9_change_88 : decode cX9_change 88 = .ok (.ireturn, 1) := by decide +kernel
theorem dX9_undo_0 : decode cX9_undo 0 = .ok (.aload_n 0, 1) := by decide +kernel
theorem dX9_undo_1 : decode cX9_undo 1 = .ok (.getfield 68, 3) := by decide +kernel
theorem dX9_undo_4 : decode cX9_undo 4 = .ok (.ifCond .ne 6, 3) := by decide +kernel
theorem dX9_undo_7 : decode cX9_undo 7 = .ok (.bipush (-2), 2) := by decide +kernel
theorem dX9_undo_9 : decode cX9_undo 9 = .ok (.ireturn, 1) := by decide +kernel
theorem dX9_undo_10 : decode cX9_undo 10 = .ok (.aload_n 0, 1) := by decide +kernel
theorem dX9_undo_11 : decode cX9_undo 11 = .ok (.dup, 1) := by decide +kernel
theorem dX9_undo_12 : decode cX9_undo 12 = .ok (.getfield 68, 3) := by decide +kernel
theorem dX9_undo_15 : decode cX9_undo 15 = .ok (.iconst 1, 1) := by decide +kernel
theorem dX9_undo_16 : decode cX9_undo 16 = .ok (.isub, 1) := by decide +kernel
theorem dX9_undo_17 : decode cX9_undo 17 = .ok (.putfield 68, 3) := by decide +kernel
theorem dX9_undo_20 : decode cX9_undo 20 = .ok (.aload_n 0, 1) := by decide +kernel
theorem dX9_undo_21 : decode cX9_undo 21 = .ok (.getfield 22, 3) := by decide +kernel
theorem dX9_undo_24 : decode cX9_undo 24 = .ok (.bipush 50, 2) := by decide +kernel
theorem dX9_undo_26 : decode cX9_undo 26 = .ok (.aload_n 0, 1) := by decide +kernel
theorem dX9_undo_27 : decode cX9_undo 27 = .ok (.getfield 68, 3) := by decide +kernel
theorem dX9_undo_30 : decode cX9_undo 30 = .ok (.imul, 1) := by decide +kernel
theorem dX9_undo_31 : decode cX9_undo 31 = .ok (.aload_n 0, 1) := by decide +kernel
theorem dX9_undo_32 : decode cX9_undo 32 = .ok (.getfield 16, 3) := by decide +kernel
theorem dX9_undo_35 : decode cX9_undo 35 = .ok (.iconst 0, 1) := by decide +kernel
theorem dX9_undo_36 : decode cX9_undo 36 = .ok (.bipush 50, 2) := by decide +kernel
theorem dX9_undo_38 : decode cX9_undo 38 = .ok (.invokestatic 148, 3) := by decide +kernel
theorem dX9_undo_41 : decode cX9_undo 41 = .ok (.aload_n 0, 1) := by decide +kernel
theorem dX9_undo_42 : decode cX9_undo 42 = .ok (.getfield 68, 3) := by decide +kernel
theorem dX9_undo_45 : decode cX9_undo 45 = .ok (.ireturn, 1) := by decide +kernel
theorem dX9_wouldBe_0 : decode cX9_wouldBe 0 = .ok (.iconst 0, 1) := by decide +kernel
theorem dX9_wouldBe_1 : decode cX9_wouldBe 1 = .ok (.istore 4, 2) := by decide +kernel
theorem dX9_wouldBe_3 : decode cX9_wouldBe 3 = .ok (.iload 4, 2) := by decide +kernel
theorem dX9_wouldBe_5 : decode cX9_wouldBe 5 = .ok (.aload_n 0, 1) := by decide +kernel
theorem dX9_wouldBe_6 : decode cX9_wouldBe 6 = .ok (.getfield 7, 3) := by decide +kernel
theorem dX9_wouldBe_9 : decode cX9_wouldBe 9 = .ok (.iconst 0, 1) := by decide +kernel
theorem dX9_wouldBe_10 : decode cX9_wouldBe 10 = .ok (.iaload, 1) := by decide +kernel
theorem dX9_wouldBe_11 : decode cX9_wouldBe 11 = .ok (.if_icmp .ge 73, 3) := by decide +kernel
theorem dX9_wouldBe_14 : decode cX9_wouldBe 14 = .ok (.aload_n 0, 1) := by decide +kernel
theorem dX9_wouldBe_15 : decode cX9_wouldBe 15 = .ok (.getfield 34, 3) := by decide +kernel
theorem dX9_wouldBe_18 : decode cX9_wouldBe 18 = .ok (.iload 4, 2) := by decide +kernel
theorem dX9_wouldBe_20 : decode cX9_wouldBe 20 = .ok (.iaload, 1) := by decide +kernel
theorem dX9_wouldBe_21 : decode cX9_wouldBe 21 = .ok (.istore 5, 2) := by decide +kernel
theorem dX9_wouldBe_23 : decode cX9_wouldBe 23 = .ok (.iconst 0, 1) := by decide +kernel
theorem dX9_wouldBe_24 : decode cX9_wouldBe 24 = .ok (.istore 6, 2) := by decide +kernel
theorem dX9_wouldBe_26 : decode cX9_wouldBe 26 = .ok (.iload 6, 2) := by decide +kernel
theorem dX9_wouldBe_28 : decode cX9_wouldBe 28 = .ok (.iload_n 3, 1) := by decide +kernel
theorem dX9_wouldBe_29 : decode cX9_wouldBe 29 = .ok (.if_icmp .ge 40, 3) := by decide +kernel
theorem dX9_wouldBe_32 : decode cX9_wouldBe 32 = .ok (.iload 5, 2) := by decide +kernel
theorem dX9_wouldBe_34 : decode cX9_wouldBe 34 = .ok (.aload_n 0, 1) := by decide +kernel
theorem dX9_wouldBe_35 : decode cX9_wouldBe 35 = .ok (.iload_n 1, 1) := by decide +kernel
theorem dX9_wouldBe_36 : decode cX9_wouldBe 36 = .ok (.iload 4, 2) := by decide +kernel
theorem dX9_wouldBe_38 : decode cX9_wouldBe 38 = .ok (.aload_n 0, 1) := by decide +kernel
theorem dX9_wouldBe_39 : decode cX9_wouldBe 39 = .ok (.getfield 40, 3) := by decide +kernel
theorem dX9_wouldBe_42 : decode cX9_wouldBe 42 = .ok (.iload 6, 2) := by decide +kernel
theorem dX9_wouldBe_44 : decode cX9_wouldBe 44 = .ok (.iaload, 1) := by decide +kernel
theorem dX9_wouldBe_45 : decode cX9_wouldBe 45 = .ok (.aload_n 0, 1) := by decide +kernel
theorem dX9_wouldBe_46 : decode cX9_wouldBe 46 = .ok (.getfield 7, 3) := by decide +kernel
theorem dX9_wouldBe_49 : decode cX9_wouldBe 49 = .ok (.iconst 4, 1) := by decide +kernel
theorem dX9_wouldBe_50 : decode cX9_wouldBe 50 = .ok (.iaload, 1) := by decide +kernel
theorem dX9_wouldBe_51 : decode cX9_wouldBe 51 = .ok (.aload_n 0, 1) := by decide +kernel
theorem dX9_wouldBe_52 : decode cX9_wouldBe 52 = .ok (.getfield 7, 3) := by decide +kernel
theorem dX9_wouldBe_55 : decode cX9_wouldBe 55 = .ok (.iconst 5, 1) := by decide +kernel
theorem dX9_wouldBe_56 : decode cX9_wouldBe 56 = .ok (.iaload, 1) := by decide +kernel
theorem dX9_wouldBe_57 : decode cX9_wouldBe 57 = .ok (.invokevirtual 175, 3) := by decide +kernel
theorem dX9_wouldBe_60 : decode cX9_wouldBe 60 = .ok (.imul, 1) := by decide +kernel
theorem dX9_wouldBe_61 : decode cX9_wouldBe 61 = .ok (.istore 5, 2) := by decide +kernel
theorem dX9_wouldBe_63 : decode cX9_wouldBe 63 = .ok (.iinc 6 1, 3) := by decide +kernel
theorem dX9_wouldBe_66 : decode cX9_wouldBe 66 = .ok (.goto (-40), 3) := by decide +kernel
theorem dX9_wouldBe_69 : decode cX9_wouldBe 69 = .ok (.aload_n 0, 1) := by decide +kernel
theorem dX9_wouldBe_70 : decode cX9_wouldBe 70 = .ok (.getfield 37, 3) := by decide +kernel
theorem dX9_wouldBe_73 : decode cX9_wouldBe 73 = .ok (.iload 4, 2) := by decide +kernel
theorem dX9_wouldBe_75 : decode cX9_wouldBe 75 = .ok (.iload 5, 2) := by decide +kernel
theorem dX9_wouldBe_77 : decode cX9_wouldBe 77 = .ok (.iastore, 1) := by decide +kernel
theorem dX9_wouldBe_78 : decode cX9_wouldBe 78 = .ok (.iinc 4 1, 3) := by decide +kernel
theorem dX9_wouldBe_81 : decode cX9_wouldBe 81 = .ok (.goto (-78), 3) := by decide +kernel
theorem dX9_wouldBe_84 : decode cX9_wouldBe 84 = .ok (.aload_n 0, 1) := by decide +kernel
theorem dX9_wouldBe_85 : decode cX9_wouldBe 85 = .ok (.aload_n 0, 1) := by decide +kernel
theorem dX9_wouldBe_86 : decode cX9_wouldBe 86 = .ok (.getfield 37, 3) := by decide +kernel
theorem dX9_wouldBe_89 : decode cX9_wouldBe 89 = .ok (.invokevirtual 187, 3) := by decide +kernel
theorem dX9_wouldBe_92 : decode cX9_wouldBe 92 = .ok (.iload_n 2, 1) := by decide +kernel
theorem dX9_wouldBe_93 : decode cX9_wouldBe 93 = .ok (.if_icmp .ne 7, 3) := by decide +kernel
theorem dX9_wouldBe_96 : decode cX9_wouldBe 96 = .ok (.iconst 1, 1) := by decide +kernel
theorem dX9_wouldBe_97 : decode cX9_wouldBe 97 = .ok (.goto 4, 3) := by decide +kernel
theorem dX9_wouldBe_100 : decode cX9_wouldBe 100 = .ok (.iconst 0, 1) := by decide +kernel
theorem dX9_wouldBe_101 : decode cX9_wouldBe 101 = .ok (.ireturn, 1) := by decide +kernel
theorem dX9_nextRow_0 : decode cX9_nextRow 0 = .ok (.iload_n 1, 1) := by decide +kernel
theorem dX9_nextRow_1 : decode cX9_nextRow 1 = .ok (.iconst 1, 1) := by decide +kernel
theorem dX9_nextRow_2 : decode cX9_nextRow 2 = .ok (.isub, 1) := by decide +kernel
theorem dX9_nextRow_3 : decode cX9_nextRow 3 = .ok (.istore_n 2, 1) := by decide +kernel
theorem dX9_nextRow_4 : decode cX9_nextRow 4 = .ok (.iload_n 2, 1) := by decide +kernel
theorem dX9_nextRow_5 : decode cX9_nextRow 5 = .ok (.ifCond .lt 78, 3) := by decide +kernel
theorem dX9_nextRow_8 : decode cX9_nextRow 8 = .ok (.aload_n 0, 1) := by decide +kernel
theorem dX9_nextRow_9 : decode cX9_nextRow 9 = .ok (.getfield 40, 3) := by decide +kernel
theorem dX9_nextRow_12 : decode cX9_nextRow 12 = .ok (.iload_n 2, 1) := by decide +kernel
theorem dX9_nextRow_13 : decode cX9_nextRow 13 = .ok (.iaload, 1) := by decide +kernel
theorem dX9_nextRow_14 : decode cX9_nextRow 14 = .ok (.iconst 1, 1) := by decide +kernel
theorem dX9_nextRow_15 : decode cX9_nextRow 15 = .ok (.iadd, 1) := by decide +kernel
theorem dX9_nextRow_16 : decode cX9_nextRow 16 = .ok (.istore_n 3, 1) := by decide +kernel
theorem dX9_nextRow_17 : decode cX9_nextRow 17 = .ok (.iload_n 3, 1) := by decide +kernel
theorem dX9_nextRow_18 : decode cX9_nextRow 18 = .ok (.aload_n 0, 1) := by decide +kernel
theorem dX9_nextRow_19 : decode cX9_nextRow 19 = .ok (.invokevirtual 152, 3) := by decide +kernel
theorem dX9_nextRow_22 : decode cX9_nextRow 22 = .ok (.if_icmp .ge 22, 3) := by decide +kernel
theorem dX9_nextRow_25 : decode cX9_nextRow 25 = .ok (.aload_n 0, 1) := by decide +kernel
theorem dX9_nextRow_26 : decode cX9_nextRow 26 = .ok (.getfield 7, 3) := by decide +kernel
theorem dX9_nextRow_29 : decode cX9_nextRow 29 = .ok (.iconst 3, 1) := by decide +kernel
theorem dX9_nextRow_30 : decode cX9_nextRow 30 = .ok (.iaload, 1) := by decide +kernel
theorem dX9_nextRow_31 : decode cX9_nextRow 31 = .ok (.iload_n 3, 1) := by decide +kernel
theorem dX9_nextRow_32 : decode cX9_nextRow 32 = .ok (.invokestatic 120, 3) := by decide +kernel
theorem dX9_nextRow_35 : decode cX9_nextRow 35 = .ok (.ifCond .eq 9, 3) := by decide +kernel
theorem dX9_nextRow_38 : decode cX9_nextRow 38 = .ok (.iinc 3 1, 3) := by decide +kernel
theorem dX9_nextRow_41 : decode cX9_nextRow 41 = .ok (.goto (-24), 3) := by decide +kernel
theorem dX9_nextRow_44 : decode cX9_nextRow 44 = .ok (.iload_n 3, 1) := by decide +kernel
theorem dX9_nextRow_45 : decode cX9_nextRow 45 = .ok (.aload_n 0, 1) := by decide +kernel
theorem dX9_nextRow_46 : decode cX9_nextRow 46 = .ok (.invokevirtual 152, 3) := by decide +kernel
theorem dX9_nextRow_49 : decode cX9_nextRow 49 = .ok (.if_icmp .ge 28, 3) := by decide +kernel
theorem dX9_nextRow_52 : decode cX9_nextRow 52 = .ok (.iload_n 2, 1) := by decide +kernel
theorem dX9_nextRow_53 : decode cX9_nextRow 53 = .ok (.istore 4, 2) := by decide +kernel
theorem dX9_nextRow_55 : decode cX9_nextRow 55 = .ok (.iload 4, 2) := by decide +kernel
theorem dX9_nextRow_57 : decode cX9_nextRow 57 = .ok (.iload_n 1, 1) := by decide +kernel
theorem dX9_nextRow_58 : decode cX9_nextRow 58 = .ok (.if_icmp .ge 17, 3) := by decide +kernel
theorem dX9_nextRow_61 : decode cX9_nextRow 61 = .ok (.aload_n 0, 1) := by decide +kernel
theorem dX9_nextRow_62 : decode cX9_nextRow 62 = .ok (.getfield 40, 3) := by decide +kernel
theorem dX9_nextRow_65 : decode cX9_nextRow 65 = .ok (.iload 4, 2) := by decide +kernel
theorem dX9_nextRow_67 : decode cX9_nextRow 67 = .ok (.iload_n 3, 1) := by decide +kernel
theorem dX9_nextRow_68 : decode cX9_nextRow 68 = .ok (.iastore, 1) := by decide +kernel
theorem dX9_nextRow_69 : decode cX9_nextRow 69 = .ok (.iinc 4 1, 3) := by decide +kernel
theorem dX9_nextRow_72 : decode cX9_nextRow 72 = .ok (.goto (-17), 3) := by decide +kernel
theorem dX9_nextRow_75 : decode cX9_nextRow 75 = .ok (.iconst 1, 1) := by decide +kernel
theorem dX9_nextRow_76 : decode cX9_nextRow 76 = .ok (.ireturn, 1) := by decide +kernel
theorem dX9_nextRow_77 : decode cX9_nextRow 77 = .ok (.iinc 2 (-1), 3) := by decide +kernel
theorem dX9_nextRow_80 : decode cX9_nextRow 80 = .ok (.goto (-76), 3) := by decide +kernel
theorem dX9_nextRow_83 : decode cX9_nextRow 83 = .ok (.iconst 0, 1) := by decide +kernel
theorem dX9_nextRow_84 : decode cX9_nextRow 84 = .ok (.ireturn, 1) := by decide +kernel
theorem dX9_firstRow_0 : decode cX9_firstRow 0 = .ok (.iconst 0, 1) := by decide +kernel
theorem dX9_firstRow_1 : decode cX9_firstRow 1 = .ok (.istore_n 2, 1) := by decide +kernel
theorem dX9_firstRow_2 : decode cX9_firstRow 2 = .ok (.iload_n 2, 1) := by decide +kernel
theorem dX9_firstRow_3 : decode cX9_firstRow 3 = .ok (.aload_n 0, 1) := by decide +kernel
theorem dX9_firstRow_4 : decode cX9_firstRow 4 = .ok (.invokevirtual 152, 3) := by decide +kernel
theorem dX9_firstRow_7 : decode cX9_firstRow 7 = .ok (.if_icmp .ge 22, 3) := by decide +kernel
theorem dX9_firstRow_10 : decode cX9_firstRow 10 = .ok (.aload_n 0, 1) := by decide +kernel
theorem dX9_firstRow_11 : decode cX9_firstRow 11 = .ok (.getfield 7, 3) := by decide +kernel
theorem dX9_firstRow_14 : decode cX9_firstRow 14 = .ok (.iconst 3, 1) := by decide +kernel
theorem dX9_firstRow_15 : decode cX9_firstRow 15 = .ok (.iaload, 1) := by decide +kernel
theorem dX9_firstRow_16 : decode cX9_firstRow 16 = .ok (.iload_n 2, 1) := by decide +kernel
theorem dX9_firstRow_17 : decode cX9_firstRow 17 = .ok (.invokestatic 120, 3) := by decide +kernel
theorem dX9_firstRow_20 : decode cX9_firstRow 20 = .ok (.ifCond .eq 9, 3) := by decide +kernel
theorem dX9_firstRow_23 : decode cX9_firstRow 23 = .ok (.iinc 2 1, 3) := by decide +kernel
theorem dX9_firstRow_26 : decode cX9_firstRow 26 = .ok (.goto (-24), 3) := by decide +kernel
theorem dX9_firstRow_29 : decode cX9_firstRow 29 = .ok (.iconst 0, 1) := by decide +kernel
theorem dX9_firstRow_30 : decode cX9_firstRow 30 = .ok (.istore_n 3, 1) := by decide +kernel
theorem dX9_firstRow_31 : decode cX9_firstRow 31 = .ok (.iload_n 3, 1) := by decide +kernel
theorem dX9_firstRow_32 : decode cX9_firstRow 32 = .ok (.iload_n 1, 1) := by decide +kernel
theorem dX9_firstRow_33 : decode cX9_firstRow 33 = .ok (.if_icmp .ge 16, 3) := by decide +kernel
theorem dX9_firstRow_36 : decode cX9_firstRow 36 = .ok (.aload_n 0, 1) := by decide +kernel
theorem dX9_firstRow_37 : decode cX9_firstRow 37 = .ok (.getfield 40, 3) := by decide +kernel
theorem dX9_firstRow_40 : decode cX9_firstRow 40 = .ok (.iload_n 3, 1) := by decide +kernel
theorem dX9_firstRow_41 : decode cX9_firstRow 41 = .ok (.iload_n 2, 1) := by decide +kernel
theorem dX9_firstRow_42 : decode cX9_firstRow 42 = .ok (.iastore, 1) := by decide +kernel
theorem dX9_firstRow_43 : decode cX9_firstRow 43 = .ok (.iinc 3 1, 3) := by decide +kernel
theorem dX9_firstRow_46 : decode cX9_firstRow 46 = .ok (.goto (-15), 3) := by decide +kernel
theorem dX9_firstRow_49 : decode cX9_firstRow 49 = .ok (.iload_n 1, 1) := by decide +kernel
theorem dX9_firstRow_50 : decode cX9_firstRow 50 = .ok (.ifCond .eq 11, 3) := by decide +kernel
theorem dX9_firstRow_53 : decode cX9_firstRow 53 = .ok (.iload_n 2, 1) := by decide +kernel
theorem dX9_firstRow_54 : decode cX9_firstRow 54 = .ok (.aload_n 0, 1) := by decide +kernel
theorem dX9_firstRow_55 : decode cX9_firstRow 55 = .ok (.invokevirtual 152, 3) := by decide +kernel
theorem dX9_firstRow_58 : decode cX9_firstRow 58 = .ok (.if_icmp .ge 7, 3) := by decide +kernel
theorem dX9_firstRow_61 : decode cX9_firstRow 61 = .ok (.iconst 1, 1) := by decide +kernel
theorem dX9_firstRow_62 : decode cX9_firstRow 62 = .ok (.goto 4, 3) := by decide +kernel
theorem dX9_firstRow_65 : decode cX9_firstRow 65 = .ok (.iconst 0, 1) := by decide +kernel
theorem dX9_firstRow_66 : decode cX9_firstRow 66 = .ok (.ireturn, 1) := by decide +kernel
theorem dX9_fewestFor_0 : decode cX9_fewestFor 0 = .ok (.aload_n 0, 1) := by decide +kernel
theorem dX9_fewestFor_1 : decode cX9_fewestFor 1 = .ok (.aload_n 0, 1) := by decide +kernel
theorem dX9_fewestFor_2 : decode cX9_fewestFor 2 = .ok (.getfield 16, 3) := by decide +kernel
theorem dX9_fewestFor_5 : decode cX9_fewestFor 5 = .ok (.iload_n 1, 1) := by decide +kernel
theorem dX9_fewestFor_6 : decode cX9_fewestFor 6 = .ok (.invokevirtual 183, 3) := by decide +kernel
theorem dX9_fewestFor_9 : decode cX9_fewestFor 9 = .ok (.iconst 0, 1) := by decide +kernel
theorem dX9_fewestFor_10 : decode cX9_fewestFor 10 = .ok (.istore_n 3, 1) := by decide +kernel
theorem dX9_fewestFor_11 : decode cX9_fewestFor 11 = .ok (.iload_n 3, 1) := by decide +kernel
theorem dX9_fewestFor_12 : decode cX9_fewestFor 12 = .ok (.iconst 4, 1) := by decide +kernel
theorem dX9_fewestFor_13 : decode cX9_fewestFor 13 = .ok (.if_icmp .ge 66, 3) := by decide +kernel
theorem dX9_fewestFor_16 : decode cX9_fewestFor 16 = .ok (.iload_n 3, 1) := by decide +kernel
theorem dX9_fewestFor_17 : decode cX9_fewestFor 17 = .ok (.aload_n 0, 1) := by decide +kernel
theorem dX9_fewestFor_18 : decode cX9_fewestFor 18 = .ok (.getfield 16, 3) := by decide +kernel
theorem dX9_fewestFor_21 : decode cX9_fewestFor 21 = .ok (.bipush 10, 2) := by decide +kernel
theorem dX9_fewestFor_23 : decode cX9_fewestFor 23 = .ok (.iload_n 1, 1) := by decide +kernel
theorem dX9_fewestFor_24 : decode cX9_fewestFor 24 = .ok (.iadd, 1) := by decide +kernel
theorem dX9_fewestFor_25 : decode cX9_fewestFor 25 = .ok (.iaload, 1) := by decide +kernel
theorem dX9_fewestFor_26 : decode cX9_fewestFor 26 = .ok (.iadd, 1) := by decide +kernel
theorem dX9_fewestFor_27 : decode cX9_fewestFor 27 = .ok (.iconst 5, 1) := by decide +kernel
theorem dX9_fewestFor_28 : decode cX9_fewestFor 28 = .ok (.if_icmp .gt 51, 3) := by decide +kernel
theorem dX9_fewestFor_31 : decode cX9_fewestFor 31 = .ok (.aload_n 0, 1) := by decide +kernel
theorem dX9_fewestFor_32 : decode cX9_fewestFor 32 = .ok (.iload_n 3, 1) := by decide +kernel
theorem dX9_fewestFor_33 : decode cX9_fewestFor 33 = .ok (.invokevirtual 236, 3) := by decide +kernel
theorem dX9_fewestFor_36 : decode cX9_fewestFor 36 = .ok (.istore 4, 2) := by decide +kernel
theorem dX9_fewestFor_38 : decode cX9_fewestFor 38 = .ok (.iload 4, 2) := by decide +kernel
theorem dX9_fewestFor_40 : decode cX9_fewestFor 40 = .ok (.ifCond .eq 33, 3) := by decide +kernel
theorem dX9_fewestFor_43 : decode cX9_fewestFor 43 = .ok (.aload_n 0, 1) := by decide +kernel
theorem dX9_fewestFor_44 : decode cX9_fewestFor 44 = .ok (.aload_n 0, 1) := by decide +kernel
theorem dX9_fewestFor_45 : decode cX9_fewestFor 45 = .ok (.getfield 7, 3) := by decide +kernel
theorem dX9_fewestFor_48 : decode cX9_fewestFor 48 = .ok (.bipush 37, 2) := by decide +kernel
theorem dX9_fewestFor_50 : decode cX9_fewestFor 50 = .ok (.iload_n 1, 1) := by decide +kernel
theorem dX9_fewestFor_51 : decode cX9_fewestFor 51 = .ok (.iadd, 1) := by decide +kernel
theorem dX9_fewestFor_52 : decode cX9_fewestFor 52 = .ok (.iaload, 1) := by decide +kernel
theorem dX9_fewestFor_53 : decode cX9_fewestFor 53 = .ok (.iload_n 2, 1) := by decide +kernel
theorem dX9_fewestFor_54 : decode cX9_fewestFor 54 = .ok (.iload_n 3, 1) := by decide +kernel
theorem dX9_fewestFor_55 : decode cX9_fewestFor 55 = .ok (.invokevirtual 239, 3) := by decide +kernel
theorem dX9_fewestFor_58 : decode cX9_fewestFor 58 = .ok (.ifCond .eq 5, 3) := by decide +kernel
theorem dX9_fewestFor_61 : decode cX9_fewestFor 61 = .ok (.iload_n 3, 1) := by decide +kernel
theorem dX9_fewestFor_62 : decode cX9_fewestFor 62 = .ok (.ireturn, 1) := by decide +kernel
theorem dX9_fewestFor_63 : decode cX9_fewestFor 63 = .ok (.aload_n 0, 1) := by decide +kernel
theorem dX9_fewestFor_64 : decode cX9_fewestFor 64 = .ok (.iload_n 3, 1) := by decide +kernel
theorem dX9_fewestFor_65 : decode cX9_fewestFor 65 = .ok (.invokevirtual 243, 3) := by decide +kernel
theorem dX9_fewestFor_68 : decode cX9_fewestFor 68 = .ok (.istore 4, 2) := by decide +kernel
theorem dX9_fewestFor_70 : decode cX9_fewestFor 70 = .ok (.goto (-32), 3) := by decide +kernel
theorem dX9_fewestFor_73 : decode cX9_fewestFor 73 = .ok (.iinc 3 1, 3) := by decide +kernel
theorem dX9_fewestFor_76 : decode cX9_fewestFor 76 = .ok (.goto (-65), 3) := by decide +kernel
theorem dX9_fewestFor_79 : decode cX9_fewestFor 79 = .ok (.bipush (-4), 2) := by decide +kernel
theorem dX9_fewestFor_81 : decode cX9_fewestFor 81 = .ok (.ireturn, 1) := by decide +kernel
theorem dX9_fewest_0 : decode cX9_fewest 0 = .ok (.aload_n 0, 1) := by decide +kernel
theorem dX9_fewest_1 : decode cX9_fewest 1 = .ok (.iload_n 1, 1) := by decide +kernel
theorem dX9_fewest_2 : decode cX9_fewest 2 = .ok (.invokevirtual 165, 3) := by decide +kernel
theorem dX9_fewest_5 : decode cX9_fewest 5 = .ok (.ifCond .eq 23, 3) := by decide +kernel
theorem dX9_fewest_8 : decode cX9_fewest 8 = .ok (.aload_n 0, 1) := by decide +kernel
theorem dX9_fewest_9 : decode cX9_fewest 9 = .ok (.iload_n 2, 1) := by decide +kernel
theorem dX9_fewest_10 : decode cX9_fewest 10 = .ok (.invokevirtual 155, 3) := by decide +kernel
theorem dX9_fewest_13 : decode cX9_fewest 13 = .ok (.ifCond .eq 15, 3) := by decide +kernel
theorem dX9_fewest_16 : decode cX9_fewest 16 = .ok (.iload_n 3, 1) := by decide +kernel
theorem dX9_fewest_17 : decode cX9_fewest 17 = .ok (.i2l, 1) := by decide +kernel
theorem dX9_fewest_18 : decode cX9_fewest 18 = .ok (.lconst 0, 1) := by decide +kernel
theorem dX9_fewest_19 : decode cX9_fewest 19 = .ok (.ldc2_w 118, 3) := by decide +kernel
theorem dX9_fewest_22 : decode cX9_fewest 22 = .ok (.invokestatic 82, 3) := by decide +kernel
theorem dX9_fewest_25 : decode cX9_fewest 25 = .ok (.ifCond .ne 5, 3) := by decide +kernel
theorem dX9_fewest_28 : decode cX9_fewest 28 = .ok (.iconst (-1), 1) := by decide +kernel
theorem dX9_fewest_29 : decode cX9_fewest 29 = .ok (.ireturn, 1) := by decide +kernel
theorem dX9_fewest_30 : decode cX9_fewest 30 = .ok (.aload_n 0, 1) := by decide +kernel
theorem dX9_fewest_31 : decode cX9_fewest 31 = .ok (.iload_n 1, 1) := by decide +kernel
theorem dX9_fewest_32 : decode cX9_fewest 32 = .ok (.invokevirtual 206, 3) := by decide +kernel
theorem dX9_fewest_35 : decode cX9_fewest 35 = .ok (.ifCond .ne 6, 3) := by decide +kernel
theorem dX9_fewest_38 : decode cX9_fewest 38 = .ok (.bipush (-2), 2) := by decide +kernel
theorem dX9_fewest_40 : decode cX9_fewest 40 = .ok (.ireturn, 1) := by decide +kernel
theorem dX9_fewest_41 : decode cX9_fewest 41 = .ok (.aload_n 0, 1) := by decide +kernel
theorem dX9_fewest_42 : decode cX9_fewest 42 = .ok (.iload_n 1, 1) := by decide +kernel
theorem dX9_fewest_43 : decode cX9_fewest 43 = .ok (.iload_n 2, 1) := by decide +kernel
theorem dX9_fewest_44 : decode cX9_fewest 44 = .ok (.invokevirtual 246, 3) := by decide +kernel
theorem dX9_fewest_47 : decode cX9_fewest 47 = .ok (.istore 4, 2) := by decide +kernel
theorem dX9_fewest_49 : decode cX9_fewest 49 = .ok (.iload 4, 2) := by decide +kernel
theorem dX9_fewest_51 : decode cX9_fewest 51 = .ok (.bipush (-4), 2) := by decide +kernel
theorem dX9_fewest_53 : decode cX9_fewest 53 = .ok (.if_icmp .eq 7, 3) := by decide +kernel
theorem dX9_fewest_56 : decode cX9_fewest 56 = .ok (.iload_n 3, 1) := by decide +kernel
theorem dX9_fewest_57 : decode cX9_fewest 57 = .ok (.ifCond .ne 8, 3) := by decide +kernel
theorem dX9_fewest_60 : decode cX9_fewest 60 = .ok (.iload 4, 2) := by decide +kernel
theorem dX9_fewest_62 : decode cX9_fewest 62 = .ok (.goto 22, 3) := by decide +kernel
theorem dX9_fewest_65 : decode cX9_fewest 65 = .ok (.iload_n 3, 1) := by decide +kernel
theorem dX9_fewest_66 : decode cX9_fewest 66 = .ok (.iload 4, 2) := by decide +kernel
theorem dX9_fewest_68 : decode cX9_fewest 68 = .ok (.if_icmp .gt 14, 3) := by decide +kernel
theorem dX9_fewest_71 : decode cX9_fewest 71 = .ok (.aload_n 0, 1) := by decide +kernel
theorem dX9_fewest_72 : decode cX9_fewest 72 = .ok (.getfield 40, 3) := by decide +kernel
theorem dX9_fewest_75 : decode cX9_fewest 75 = .ok (.iload_n 3, 1) := by decide +kernel
theorem dX9_fewest_76 : decode cX9_fewest 76 = .ok (.iconst 1, 1) := by decide +kernel
theorem dX9_fewest_77 : decode cX9_fewest 77 = .ok (.isub, 1) := by decide +kernel
theorem dX9_fewest_78 : decode cX9_fewest 78 = .ok (.iaload, 1) := by decide +kernel
theorem dX9_fewest_79 : decode cX9_fewest 79 = .ok (.goto 5, 3) := by decide +kernel
theorem dX9_fewest_82 : decode cX9_fewest 82 = .ok (.bipush (-4), 2) := by decide +kernel
theorem dX9_fewest_84 : decode cX9_fewest 84 = .ok (.ireturn, 1) := by decide +kernel
theorem dX9_tells_0 : decode cX9_tells 0 = .ok (.aload_n 0, 1) := by decide +kernel
theorem dX9_tells_1 : decode cX9_tells 1 = .ok (.iload_n 1, 1) := by decide +kernel
theorem dX9_tells_2 : decode cX9_tells 2 = .ok (.invokevirtual 165, 3) := by decide +kernel
theorem dX9_tells_5 : decode cX9_tells 5 = .ok (.ifCond .ne 5, 3) := by decide +kernel
theorem dX9_tells_8 : decode cX9_tells 8 = .ok (.iconst (-1), 1) := by decide +kernel
theorem dX9_tells_9 : decode cX9_tells 9 = .ok (.ireturn, 1) := by decide +kernel
theorem dX9_tells_10 : decode cX9_tells 10 = .ok (.aload_n 0, 1) := by decide +kernel
theorem dX9_tells_11 : decode cX9_tells 11 = .ok (.iload_n 1, 1) := by decide +kernel
theorem dX9_tells_12 : decode cX9_tells 12 = .ok (.invokevirtual 206, 3) := by decide +kernel
theorem dX9_tells_15 : decode cX9_tells 15 = .ok (.ifCond .ne 6, 3) := by decide +kernel
theorem dX9_tells_18 : decode cX9_tells 18 = .ok (.bipush (-2), 2) := by decide +kernel
theorem dX9_tells_20 : decode cX9_tells 20 = .ok (.ireturn, 1) := by decide +kernel
theorem dX9_tells_21 : decode cX9_tells 21 = .ok (.aload_n 0, 1) := by decide +kernel
theorem dX9_tells_22 : decode cX9_tells 22 = .ok (.aload_n 0, 1) := by decide +kernel
theorem dX9_tells_23 : decode cX9_tells 23 = .ok (.getfield 16, 3) := by decide +kernel
theorem dX9_tells_26 : decode cX9_tells 26 = .ok (.iload_n 1, 1) := by decide +kernel
theorem dX9_tells_27 : decode cX9_tells 27 = .ok (.invokevirtual 183, 3) := by decide +kernel
theorem dX9_tells_30 : decode cX9_tells 30 = .ok (.bipush (-4), 2) := by decide +kernel
theorem dX9_tells_32 : decode cX9_tells 32 = .ok (.istore_n 2, 1) := by decide +kernel
theorem dX9_tells_33 : decode cX9_tells 33 = .ok (.lconst 0, 1) := by decide +kernel
theorem dX9_tells_34 : decode cX9_tells 34 = .ok (.lstore_n 3, 1) := by decide +kernel
theorem dX9_tells_35 : decode cX9_tells 35 = .ok (.lconst 1, 1) := by decide +kernel
theorem dX9_tells_36 : decode cX9_tells 36 = .ok (.lstore 5, 2) := by decide +kernel
theorem dX9_tells_38 : decode cX9_tells 38 = .ok (.iconst 0, 1) := by decide +kernel
theorem dX9_tells_39 : decode cX9_tells 39 = .ok (.istore 7, 2) := by decide +kernel
theorem dX9_tells_41 : decode cX9_tells 41 = .ok (.iload 7, 2) := by decide +kernel
theorem dX9_tells_43 : decode cX9_tells 43 = .ok (.aload_n 0, 1) := by decide +kernel
theorem dX9_tells_44 : decode cX9_tells 44 = .ok (.invokevirtual 152, 3) := by decide +kernel
theorem dX9_tells_47 : decode cX9_tells 47 = .ok (.if_icmp .ge 131, 3) := by decide +kernel
theorem dX9_tells_50 : decode cX9_tells 50 = .ok (.aload_n 0, 1) := by decide +kernel
theorem dX9_tells_51 : decode cX9_tells 51 = .ok (.getfield 16, 3) := by decide +kernel
theorem dX9_tells_54 : decode cX9_tells 54 = .ok (.bipush 10, 2) := by decide +kernel
theorem dX9_tells_56 : decode cX9_tells 56 = .ok (.iload_n 1, 1) := by decide +kernel
theorem dX9_tells_57 : decode cX9_tells 57 = .ok (.iadd, 1) := by decide +kernel
theorem dX9_tells_58 : decode cX9_tells 58 = .ok (.iaload, 1) := by decide +kernel
theorem dX9_tells_59 : decode cX9_tells 59 = .ok (.iconst 5, 1) := by decide +kernel
theorem dX9_tells_60 : decode cX9_tells 60 = .ok (.if_icmp .ge 118, 3) := by decide +kernel
theorem dX9_tells_63 : decode cX9_tells 63 = .ok (.aload_n 0, 1) := by decide +kernel
theorem dX9_tells_64 : decode cX9_tells 64 = .ok (.getfield 7, 3) := by decide +kernel
theorem dX9_tells_67 : decode cX9_tells 67 = .ok (.iconst 3, 1) := by decide +kernel
theorem dX9_tells_68 : decode cX9_tells 68 = .ok (.iaload, 1) := by decide +kernel
theorem dX9_tells_69 : decode cX9_tells 69 = .ok (.iload 7, 2) := by decide +kernel
theorem dX9_tells_71 : decode cX9_tells 71 = .ok (.invokestatic 120, 3) := by decide +kernel
theorem dX9_tells_74 : decode cX9_tells 74 = .ok (.ifCond .ne 98, 3) := by decide +kernel
theorem dX9_tells_77 : decode cX9_tells 77 = .ok (.aload_n 0, 1) := by decide +kernel
theorem dX9_tells_78 : decode cX9_tells 78 = .ok (.getfield 40, 3) := by decide +kernel
theorem dX9_tells_81 : decode cX9_tells 81 = .ok (.iconst 0, 1) := by decide +kernel
theorem dX9_tells_82 : decode cX9_tells 82 = .ok (.iload 7, 2) := by decide +kernel
theorem dX9_tells_84 : decode cX9_tells 84 = .ok (.iastore, 1) := by decide +kernel
theorem dX9_tells_85 : decode cX9_tells 85 = .ok (.aload_n 0, 1) := by decide +kernel
theorem dX9_tells_86 : decode cX9_tells 86 = .ok (.aload_n 0, 1) := by decide +kernel
theorem dX9_tells_87 : decode cX9_tells 87 = .ok (.getfield 7, 3) := by decide +kernel
theorem dX9_tells_90 : decode cX9_tells 90 = .ok (.bipush 37, 2) := by decide +kernel
theorem dX9_tells_92 : decode cX9_tells 92 = .ok (.iload_n 1, 1) := by decide +kernel
theorem dX9_tells_93 : decode cX9_tells 93 = .ok (.iadd, 1) := by decide +kernel
theorem dX9_tells_94 : decode cX9_tells 94 = .ok (.iaload, 1) := by decide +kernel
theorem dX9_tells_95 : decode cX9_tells 95 = .ok (.iconst 0, 1) := by decide +kernel
theorem dX9_tells_96 : decode cX9_tells 96 = .ok (.iconst 1, 1) := by decide +kernel
theorem dX9_tells_97 : decode cX9_tells 97 = .ok (.invokevirtual 239, 3) := by decide +kernel
theorem dX9_tells_100 : decode cX9_tells 100 = .ok (.istore 8, 2) := by decide +kernel
theorem dX9_tells_102 : decode cX9_tells 102 = .ok (.aload_n 0, 1) := by decide +kernel
theorem dX9_tells_103 : decode cX9_tells 103 = .ok (.aload_n 0, 1) := by decide +kernel
theorem dX9_tells_104 : decode cX9_tells 104 = .ok (.getfield 37, 3) := by decide +kernel
theorem dX9_tells_107 : decode cX9_tells 107 = .ok (.invokevirtual 198, 3) := by decide +kernel
theorem dX9_tells_110 : decode cX9_tells 110 = .ok (.lstore 9, 2) := by decide +kernel
theorem dX9_tells_112 : decode cX9_tells 112 = .ok (.aload_n 0, 1) := by decide +kernel
theorem dX9_tells_113 : decode cX9_tells 113 = .ok (.getfield 37, 3) := by decide +kernel
theorem dX9_tells_116 : decode cX9_tells 116 = .ok (.aload_n 0, 1) := by decide +kernel
theorem dX9_tells_117 : decode cX9_tells 117 = .ok (.getfield 16, 3) := by decide +kernel
theorem dX9_tells_120 : decode cX9_tells 120 = .ok (.iconst 0, 1) := by decide +kernel
theorem dX9_tells_121 : decode cX9_tells 121 = .ok (.iload_n 1, 1) := by decide +kernel
theorem dX9_tells_122 : decode cX9_tells 122 = .ok (.iadd, 1) := by decide +kernel
theorem dX9_tells_123 : decode cX9_tells 123 = .ok (.iaload, 1) := by decide +kernel
theorem dX9_tells_124 : decode cX9_tells 124 = .ok (.iaload, 1) := by decide +kernel
theorem dX9_tells_125 : decode cX9_tells 125 = .ok (.i2l, 1) := by decide +kernel
theorem dX9_tells_126 : decode cX9_tells 126 = .ok (.lstore 11, 2) := by decide +kernel
theorem dX9_tells_128 : decode cX9_tells 128 = .ok (.lload 9, 2) := by decide +kernel
theorem dX9_tells_130 : decode cX9_tells 130 = .ok (.lconst 0, 1) := by decide +kernel
theorem dX9_tells_131 : decode cX9_tells 131 = .ok (.lcmp, 1) := by decide +kernel
theorem dX9_tells_132 : decode cX9_tells 132 = .ok (.ifCond .ne 7, 3) := by decide +kernel
theorem dX9_tells_135 : decode cX9_tells 135 = .ok (.lconst 1, 1) := by decide +kernel
theorem dX9_tells_136 : decode cX9_tells 136 = .ok (.goto 5, 3) := by decide +kernel
theorem dX9_tells_139 : decode cX9_tells 139 = .ok (.lload 9, 2) := by decide +kernel
theorem dX9_tells_141 : decode cX9_tells 141 = .ok (.lstore 9, 2) := by decide +kernel
theorem dX9_tells_143 : decode cX9_tells 143 = .ok (.iload_n 2, 1) := by decide +kernel
theorem dX9_tells_144 : decode cX9_tells 144 = .ok (.bipush (-4), 2) := by decide +kernel
theorem dX9_tells_146 : decode cX9_tells 146 = .ok (.if_icmp .eq 16, 3) := by decide +kernel
theorem dX9_tells_149 : decode cX9_tells 149 = .ok (.lload 11, 2) := by decide +kernel
theorem dX9_tells_151 : decode cX9_tells 151 = .ok (.lload 5, 2) := by decide +kernel
theorem dX9_tells_153 : decode cX9_tells 153 = .ok (.lmul, 1) := by decide +kernel
theorem dX9_tells_154 : decode cX9_tells 154 = .ok (.lload_n 3, 1) := by decide +kernel
theorem dX9_tells_155 : decode cX9_tells 155 = .ok (.lload 9, 2) := by decide +kernel
theorem dX9_tells_157 : decode cX9_tells 157 = .ok (.lmul, 1) := by decide +kernel
theorem dX9_tells_158 : decode cX9_tells 158 = .ok (.lcmp, 1) := by decide +kernel
theorem dX9_tells_159 : decode cX9_tells 159 = .ok (.ifCond .le 13, 3) := by decide +kernel
theorem dX9_tells_162 : decode cX9_tells 162 = .ok (.iload 7, 2) := by decide +kernel
theorem dX9_tells_164 : decode cX9_tells 164 = .ok (.istore_n 2, 1) := by decide +kernel
theorem dX9_tells_165 : decode cX9_tells 165 = .ok (.lload 11, 2) := by decide +kernel
theorem dX9_tells_167 : decode cX9_tells 167 = .ok (.lstore_n 3, 1) := by decide +kernel
theorem dX9_tells_168 : decode cX9_tells 168 = .ok (.lload 9, 2) := by decide +kernel
theorem dX9_tells_170 : decode cX9_tells 170 = .ok (.lstore 5, 2) := by decide +kernel
theorem dX9_tells_172 : decode cX9_tells 172 = .ok (.iinc 7 1, 3) := by decide +kernel
theorem dX9_tells_175 : decode cX9_tells 175 = .ok (.goto (-134), 3) := by decide +kernel
theorem dX9_tells_178 : decode cX9_tells 178 = .ok (.iload_n 2, 1) := by decide +kernel
theorem dX9_tells_179 : decode cX9_tells 179 = .ok (.ireturn, 1) := by decide +kernel
theorem dX9_nextOrder_0 : decode cX9_nextOrder 0 = .ok (.iload_n 1, 1) := by decide +kernel
theorem dX9_nextOrder_1 : decode cX9_nextOrder 1 = .ok (.iconst 2, 1) := by decide +kernel
theorem dX9_nextOrder_2 : decode cX9_nextOrder 2 = .ok (.isub, 1) := by decide +kernel
theorem dX9_nextOrder_3 : decode cX9_nextOrder 3 = .ok (.istore_n 2, 1) := by decide +kernel
theorem dX9_nextOrder_4 : decode cX9_nextOrder 4 = .ok (.iload_n 2, 1) := by decide +kernel
theorem dX9_nextOrder_5 : decode cX9_nextOrder 5 = .ok (.ifCond .lt 26, 3) := by decide +kernel
theorem dX9_nextOrder_8 : decode cX9_nextOrder 8 = .ok (.aload_n 0, 1) := by decide +kernel
theorem dX9_nextOrder_9 : decode cX9_nextOrder 9 = .ok (.getfield 46, 3) := by decide +kernel
theorem dX9_nextOrder_12 : decode cX9_nextOrder 12 = .ok (.iload_n 2, 1) := by decide +kernel
theorem dX9_nextOrder_13 : decode cX9_nextOrder 13 = .ok (.iaload, 1) := by decide +kernel
theorem dX9_nextOrder_14 : decode cX9_nextOrder 14 = .ok (.aload_n 0, 1) := by decide +kernel
theorem dX9_nextOrder_15 : decode cX9_nextOrder 15 = .ok (.getfield 46, 3) := by decide +kernel
theorem dX9_nextOrder_18 : decode cX9_nextOrder 18 = .ok (.iload_n 2, 1) := by decide +kernel
theorem dX9_nextOrder_19 : decode cX9_nextOrder 19 = .ok (.iconst 1, 1) := by decide +kernel
theorem dX9_nextOrder_20 : decode cX9_nextOrder 20 = .ok (.iadd, 1) := by decide +kernel
theorem dX9_nextOrder_21 : decode cX9_nextOrder 21 = .ok (.iaload, 1) := by decide +kernel
theorem dX9_nextOrder_22 : decode cX9_nextOrder 22 = .ok (.if_icmp .le 9, 3) := by decide +kernel
theorem dX9_nextOrder_25 : decode cX9_nextOrder 25 = .ok (.iinc 2 (-1), 3) := by decide +kernel
theorem dX9_nextOrder_28 : decode cX9_nextOrder 28 = .ok (.goto (-24), 3) := by decide +kernel
theorem dX9_nextOrder_31 : decode cX9_nextOrder 31 = .ok (.iload_n 2, 1) := by decide +kernel
theorem dX9_nextOrder_32 : decode cX9_nextOrder 32 = .ok (.ifCond .ge 5, 3) := by decide +kernel
theorem dX9_nextOrder_35 : decode cX9_nextOrder 35 = .ok (.iconst 0, 1) := by decide +kernel
theorem dX9_nextOrder_36 : decode cX9_nextOrder 36 = .ok (.ireturn, 1) := by decide +kernel
theorem dX9_nextOrder_37 : decode cX9_nextOrder 37 = .ok (.iload_n 1, 1) := by decide +kernel
theorem dX9_nextOrder_38 : decode cX9_nextOrder 38 = .ok (.iconst 1, 1) := by decide +kernel
theorem dX9_nextOrder_39 : decode cX9_nextOrder 39 = .ok (.isub, 1) := by decide +kernel
theorem dX9_nextOrder_40 : decode cX9_nextOrder 40 = .ok (.istore_n 3, 1) := by decide +kernel
theorem dX9_nextOrder_41 : decode cX9_nextOrder 41 = .ok (.aload_n 0, 1) := by decide +kernel
theorem dX9_nextOrder_42 : decode cX9_nextOrder 42 = .ok (.getfield 46, 3) := by decide +kernel
theorem dX9_nextOrder_45 : decode cX9_nextOrder 45 = .ok (.iload_n 3, 1) := by decide +kernel
theorem dX9_nextOrder_46 : decode cX9_nextOrder 46 = .ok (.iaload, 1) := by decide +kernel
theorem dX9_nextOrder_47 : decode cX9_nextOrder 47 = .ok (.aload_n 0, 1) := by decide +kernel
theorem dX9_nextOrder_48 : decode cX9_nextOrder 48 = .ok (.getfield 46, 3) := by decide +kernel
theorem dX9_nextOrder_51 : decode cX9_nextOrder 51 = .ok (.iload_n 2, 1) := by decide +kernel
theorem dX9_nextOrder_52 : decode cX9_nextOrder 52 = .ok (.iaload, 1) := by decide +kernel
theorem dX9_nextOrder_53 : decode cX9_nextOrder 53 = .ok (.if_icmp .ge 9, 3) := by decide +kernel
theorem dX9_nextOrder_56 : decode cX9_nextOrder 56 = .ok (.iinc 3 (-1), 3) := by decide +kernel
theorem dX9_nextOrder_59 : decode cX9_nextOrder 59 = .ok (.goto (-18), 3) := by decide +kernel
theorem dX9_nextOrder_62 : decode cX9_nextOrder 62 = .ok (.aload_n 0, 1) := by decide +kernel
theorem dX9_nextOrder_63 : decode cX9_nextOrder 63 = .ok (.getfield 46, 3) := by decide +kernel
theorem dX9_nextOrder_66 : decode cX9_nextOrder 66 = .ok (.iload_n 2, 1) := by decide +kernel
theorem dX9_nextOrder_67 : decode cX9_nextOrder 67 = .ok (.iaload, 1) := by decide +kernel
theorem dX9_nextOrder_68 : decode cX9_nextOrder 68 = .ok (.istore 4, 2) := by decide +kernel
theorem dX9_nextOrder_70 : decode cX9_nextOrder 70 = .ok (.aload_n 0, 1) := by decide +kernel
theorem dX9_nextOrder_71 : decode cX9_nextOrder 71 = .ok (.getfield 46, 3) := by decide +kernel
theorem dX9_nextOrder_74 : decode cX9_nextOrder 74 = .ok (.iload_n 2, 1) := by decide +kernel
theorem dX9_nextOrder_75 : decode cX9_nextOrder 75 = .ok (.aload_n 0, 1) := by decide +kernel
theorem dX9_nextOrder_76 : decode cX9_nextOrder 76 = .ok (.getfield 46, 3) := by decide +kernel
theorem dX9_nextOrder_79 : decode cX9_nextOrder 79 = .ok (.iload_n 3, 1) := by decide +kernel
theorem dX9_nextOrder_80 : decode cX9_nextOrder 80 = .ok (.iaload, 1) := by decide +kernel
theorem dX9_nextOrder_81 : decode cX9_nextOrder 81 = .ok (.iastore, 1) := by decide +kernel
theorem dX9_nextOrder_82 : decode cX9_nextOrder 82 = .ok (.aload_n 0, 1) := by decide +kernel
theorem dX9_nextOrder_83 : decode cX9_nextOrder 83 = .ok (.getfield 46, 3) := by decide +kernel
theorem dX9_nextOrder_86 : decode cX9_nextOrder 86 = .ok (.iload_n 3, 1) := by decide +kernel
theorem dX9_nextOrder_87 : decode cX9_nextOrder 87 = .ok (.iload 4, 2) := by decide +kernel
theorem dX9_nextOrder_89 : decode cX9_nextOrder 89 = .ok (.iastore, 1) := by decide +kernel
theorem dX9_nextOrder_90 : decode cX9_nextOrder 90 = .ok (.iload_n 2, 1) := by decide +kernel
theorem dX9_nextOrder_91 : decode cX9_nextOrder 91 = .ok (.iconst 1, 1) := by decide +kernel
theorem dX9_nextOrder_92 : decode cX9_nextOrder 92 = .ok (.iadd, 1) := by decide +kernel
theorem dX9_nextOrder_93 : decode cX9_nextOrder 93 = .ok (.istore 5, 2) := by decide +kernel
theorem dX9_nextOrder_95 : decode cX9_nextOrder 95 = .ok (.iload_n 1, 1) := by decide +kernel
theorem dX9_nextOrder_96 : decode cX9_nextOrder 96 = .ok (.iconst 1, 1) := by decide +kernel
theorem dX9_nextOrder_97 : decode cX9_nextOrder 97 = .ok (.isub, 1) := by decide +kernel
theorem dX9_nextOrder_98 : decode cX9_nextOrder 98 = .ok (.istore 6, 2) := by decide +kernel
theorem dX9_nextOrder_100 : decode cX9_nextOrder 100 = .ok (.iload 5, 2) := by decide +kernel
theorem dX9_nextOrder_102 : decode cX9_nextOrder 102 = .ok (.iload 6, 2) := by decide +kernel
theorem dX9_nextOrder_104 : decode cX9_nextOrder 104 = .ok (.if_icmp .ge 44, 3) := by decide +kernel
theorem dX9_nextOrder_107 : decode cX9_nextOrder 107 = .ok (.aload_n 0, 1) := by decide +kernel
theorem dX9_nextOrder_108 : decode cX9_nextOrder 108 = .ok (.getfield 46, 3) := by decide +kernel
theorem dX9_nextOrder_111 : decode cX9_nextOrder 111 = .ok (.iload 5, 2) := by decide +kernel
theorem dX9_nextOrder_113 : decode cX9_nextOrder 113 = .ok (.iaload, 1) := by decide +kernel
theorem dX9_nextOrder_114 : decode cX9_nextOrder 114 = .ok (.istore 4, 2) := by decide +kernel
theorem dX9_nextOrder_116 : decode cX9_nextOrder 116 = .ok (.aload_n 0, 1) := by decide +kernel
theorem dX9_nextOrder_117 : decode cX9_nextOrder 117 = .ok (.getfield 46, 3) := by decide +kernel
theorem dX9_nextOrder_120 : decode cX9_nextOrder 120 = .ok (.iload 5, 2) := by decide +kernel
theorem dX9_nextOrder_122 : decode cX9_nextOrder 122 = .ok (.aload_n 0, 1) := by decide +kernel
theorem dX9_nextOrder_123 : decode cX9_nextOrder 123 = .ok (.getfield 46, 3) := by decide +kernel
theorem dX9_nextOrder_126 : decode cX9_nextOrder 126 = .ok (.iload 6, 2) := by decide +kernel
theorem dX9_nextOrder_128 : decode cX9_nextOrder 128 = .ok (.iaload, 1) := by decide +kernel
theorem dX9_nextOrder_129 : decode cX9_nextOrder 129 = .ok (.iastore, 1) := by decide +kernel
theorem dX9_nextOrder_130 : decode cX9_nextOrder 130 = .ok (.aload_n 0, 1) := by decide +kernel
theorem dX9_nextOrder_131 : decode cX9_nextOrder 131 = .ok (.getfield 46, 3) := by decide +kernel
theorem dX9_nextOrder_134 : decode cX9_nextOrder 134 = .ok (.iload 6, 2) := by decide +kernel
theorem dX9_nextOrder_136 : decode cX9_nextOrder 136 = .ok (.iload 4, 2) := by decide +kernel
theorem dX9_nextOrder_138 : decode cX9_nextOrder 138 = .ok (.iastore, 1) := by decide +kernel
theorem dX9_nextOrder_139 : decode cX9_nextOrder 139 = .ok (.iinc 5 1, 3) := by decide +kernel
theorem dX9_nextOrder_142 : decode cX9_nextOrder 142 = .ok (.iinc 6 (-1), 3) := by decide +kernel
theorem dX9_nextOrder_145 : decode cX9_nextOrder 145 = .ok (.goto (-45), 3) := by decide +kernel
theorem dX9_nextOrder_148 : decode cX9_nextOrder 148 = .ok (.iconst 1, 1) := by decide +kernel
theorem dX9_nextOrder_149 : decode cX9_nextOrder 149 = .ok (.ireturn, 1) := by decide +kernel
theorem dX9_firstOrder_0 : decode cX9_firstOrder 0 = .ok (.iconst 0, 1) := by decide +kernel
theorem dX9_firstOrder_1 : decode cX9_firstOrder 1 = .ok (.istore_n 2, 1) := by decide +kernel
theorem dX9_firstOrder_2 : decode cX9_firstOrder 2 = .ok (.iload_n 2, 1) := by decide +kernel
theorem dX9_firstOrder_3 : decode cX9_firstOrder 3 = .ok (.iload_n 1, 1) := by decide +kernel
theorem dX9_firstOrder_4 : decode cX9_firstOrder 4 = .ok (.if_icmp .ge 16, 3) := by decide +kernel
theorem dX9_firstOrder_7 : decode cX9_firstOrder 7 = .ok (.aload_n 0, 1) := by decide +kernel
theorem dX9_firstOrder_8 : decode cX9_firstOrder 8 = .ok (.getfield 46, 3) := by decide +kernel
theorem dX9_firstOrder_11 : decode cX9_firstOrder 11 = .ok (.iload_n 2, 1) := by decide +kernel
theorem dX9_firstOrder_12 : decode cX9_firstOrder 12 = .ok (.iload_n 2, 1) := by decide +kernel
theorem dX9_firstOrder_13 : decode cX9_firstOrder 13 = .ok (.iastore, 1) := by decide +kernel
theorem dX9_firstOrder_14 : decode cX9_firstOrder 14 = .ok (.iinc 2 1, 3) := by decide +kernel
theorem dX9_firstOrder_17 : decode cX9_firstOrder 17 = .ok (.goto (-15), 3) := by decide +kernel
theorem dX9_firstOrder_20 : decode cX9_firstOrder 20 = .ok (.return_, 1) := by decide +kernel
theorem dX9_freshOnes_0 : decode cX9_freshOnes 0 = .ok (.iconst 0, 1) := by decide +kernel
theorem dX9_freshOnes_1 : decode cX9_freshOnes 1 = .ok (.istore_n 1, 1) := by decide +kernel
theorem dX9_freshOnes_2 : decode cX9_freshOnes 2 = .ok (.iconst 0, 1) := by decide +kernel
theorem dX9_freshOnes_3 : decode cX9_freshOnes 3 = .ok (.istore_n 2, 1) := by decide +kernel
theorem dX9_freshOnes_4 : decode cX9_freshOnes 4 = .ok (.iload_n 2, 1) := by decide +kernel
theorem dX9_freshOnes_5 : decode cX9_freshOnes 5 = .ok (.aload_n 0, 1) := by decide +kernel
theorem dX9_freshOnes_6 : decode cX9_freshOnes 6 = .ok (.getfield 7, 3) := by decide +kernel
theorem dX9_freshOnes_9 : decode cX9_freshOnes 9 = .ok (.iconst 2, 1) := by decide +kernel
theorem dX9_freshOnes_10 : decode cX9_freshOnes 10 = .ok (.iaload, 1) := by decide +kernel
theorem dX9_freshOnes_11 : decode cX9_freshOnes 11 = .ok (.if_icmp .ge 27, 3) := by decide +kernel
theorem dX9_freshOnes_14 : decode cX9_freshOnes 14 = .ok (.aload_n 0, 1) := by decide +kernel
theorem dX9_freshOnes_15 : decode cX9_freshOnes 15 = .ok (.iload_n 2, 1) := by decide +kernel
theorem dX9_freshOnes_16 : decode cX9_freshOnes 16 = .ok (.invokevirtual 233, 3) := by decide +kernel
theorem dX9_freshOnes_19 : decode cX9_freshOnes 19 = .ok (.ifCond .eq 13, 3) := by decide +kernel
theorem dX9_freshOnes_22 : decode cX9_freshOnes 22 = .ok (.aload_n 0, 1) := by decide +kernel
theorem dX9_freshOnes_23 : decode cX9_freshOnes 23 = .ok (.getfield 43, 3) := by decide +kernel
theorem dX9_freshOnes_26 : decode cX9_freshOnes 26 = .ok (.iload_n 1, 1) := by decide +kernel
theorem dX9_freshOnes_27 : decode cX9_freshOnes 27 = .ok (.iload_n 2, 1) := by decide +kernel
theorem dX9_freshOnes_28 : decode cX9_freshOnes 28 = .ok (.iastore, 1) := by decide +kernel
theorem dX9_freshOnes_29 : decode cX9_freshOnes 29 = .ok (.iinc 1 1, 3) := by decide +kernel
theorem dX9_freshOnes_32 : decode cX9_freshOnes 32 = .ok (.iinc 2 1, 3) := by decide +kernel
theorem dX9_freshOnes_35 : decode cX9_freshOnes 35 = .ok (.goto (-31), 3) := by decide +kernel
theorem dX9_freshOnes_38 : decode cX9_freshOnes 38 = .ok (.iload_n 1, 1) := by decide +kernel
theorem dX9_freshOnes_39 : decode cX9_freshOnes 39 = .ok (.ireturn, 1) := by decide +kernel
theorem dX9_deals_0 : decode cX9_deals 0 = .ok (.iconst 0, 1) := by decide +kernel
theorem dX9_deals_1 : decode cX9_deals 1 = .ok (.istore_n 2, 1) := by decide +kernel
theorem dX9_deals_2 : decode cX9_deals 2 = .ok (.iload_n 2, 1) := by decide +kernel
theorem dX9_deals_3 : decode cX9_deals 3 = .ok (.iload_n 1, 1) := by decide +kernel
theorem dX9_deals_4 : decode cX9_deals 4 = .ok (.if_icmp .ge 71, 3) := by decide +kernel
theorem dX9_deals_7 : decode cX9_deals 7 = .ok (.iconst 0, 1) := by decide +kernel
theorem dX9_deals_8 : decode cX9_deals 8 = .ok (.istore_n 3, 1) := by decide +kernel
theorem dX9_deals_9 : decode cX9_deals 9 = .ok (.iload_n 3, 1) := by decide +kernel
theorem dX9_deals_10 : decode cX9_deals 10 = .ok (.iload_n 1, 1) := by decide +kernel
theorem dX9_deals_11 : decode cX9_deals 11 = .ok (.if_icmp .ge 58, 3) := by decide +kernel
theorem dX9_deals_14 : decode cX9_deals 14 = .ok (.aload_n 0, 1) := by decide +kernel
theorem dX9_deals_15 : decode cX9_deals 15 = .ok (.aload_n 0, 1) := by decide +kernel
theorem dX9_deals_16 : decode cX9_deals 16 = .ok (.getfield 43, 3) := by decide +kernel
theorem dX9_deals_19 : decode cX9_deals 19 = .ok (.iload_n 2, 1) := by decide +kernel
theorem dX9_deals_20 : decode cX9_deals 20 = .ok (.iaload, 1) := by decide +kernel
theorem dX9_deals_21 : decode cX9_deals 21 = .ok (.aload_n 0, 1) := by decide +kernel
theorem dX9_deals_22 : decode cX9_deals 22 = .ok (.getfield 16, 3) := by decide +kernel
theorem dX9_deals_25 : decode cX9_deals 25 = .ok (.iconst 0, 1) := by decide +kernel
theorem dX9_deals_26 : decode cX9_deals 26 = .ok (.aload_n 0, 1) := by decide +kernel
theorem dX9_deals_27 : decode cX9_deals 27 = .ok (.getfield 43, 3) := by decide +kernel
theorem dX9_deals_30 : decode cX9_deals 30 = .ok (.iload_n 3, 1) := by decide +kernel
theorem dX9_deals_31 : decode cX9_deals 31 = .ok (.iaload, 1) := by decide +kernel
theorem dX9_deals_32 : decode cX9_deals 32 = .ok (.iadd, 1) := by decide +kernel
theorem dX9_deals_33 : decode cX9_deals 33 = .ok (.iaload, 1) := by decide +kernel
theorem dX9_deals_34 : decode cX9_deals 34 = .ok (.invokevirtual 246, 3) := by decide +kernel
theorem dX9_deals_37 : decode cX9_deals 37 = .ok (.istore 4, 2) := by decide +kernel
theorem dX9_deals_39 : decode cX9_deals 39 = .ok (.aload_n 0, 1) := by decide +kernel
theorem dX9_deals_40 : decode cX9_deals 40 = .ok (.getfield 52, 3) := by decide +kernel
theorem dX9_deals_43 : decode cX9_deals 43 = .ok (.iconst 5, 1) := by decide +kernel
theorem dX9_deals_44 : decode cX9_deals 44 = .ok (.iload_n 2, 1) := by decide +kernel
theorem dX9_deals_45 : decode cX9_deals 45 = .ok (.imul, 1) := by decide +kernel
theorem dX9_deals_46 : decode cX9_deals 46 = .ok (.iload_n 3, 1) := by decide +kernel
theorem dX9_deals_47 : decode cX9_deals 47 = .ok (.iadd, 1) := by decide +kernel
theorem dX9_deals_48 : decode cX9_deals 48 = .ok (.iload 4, 2) := by decide +kernel
theorem dX9_deals_50 : decode cX9_deals 50 = .ok (.bipush (-4), 2) := by decide +kernel
theorem dX9_deals_52 : decode cX9_deals 52 = .ok (.if_icmp .ne 8, 3) := by decide +kernel
theorem dX9_deals_55 : decode cX9_deals 55 = .ok (.bipush 9, 2) := by decide +kernel
theorem dX9_deals_57 : decode cX9_deals 57 = .ok (.goto 5, 3) := by decide +kernel
theorem dX9_deals_60 : decode cX9_deals 60 = .ok (.iload 4, 2) := by decide +kernel
theorem dX9_deals_62 : decode cX9_deals 62 = .ok (.iastore, 1) := by decide +kernel
theorem dX9_deals_63 : decode cX9_deals 63 = .ok (.iinc 3 1, 3) := by decide +kernel
theorem dX9_deals_66 : decode cX9_deals 66 = .ok (.goto (-57), 3) := by decide +kernel
theorem dX9_deals_69 : decode cX9_deals 69 = .ok (.iinc 2 1, 3) := by decide +kernel
theorem dX9_deals_72 : decode cX9_deals 72 = .ok (.goto (-70), 3) := by decide +kernel
theorem dX9_deals_75 : decode cX9_deals 75 = .ok (.ldc 250, 2) := by decide +kernel
theorem dX9_deals_77 : decode cX9_deals 77 = .ok (.istore_n 2, 1) := by decide +kernel
theorem dX9_deals_78 : decode cX9_deals 78 = .ok (.aload_n 0, 1) := by decide +kernel
theorem dX9_deals_79 : decode cX9_deals 79 = .ok (.iload_n 1, 1) := by decide +kernel
theorem dX9_deals_80 : decode cX9_deals 80 = .ok (.invokevirtual 251, 3) := by decide +kernel
theorem dX9_deals_83 : decode cX9_deals 83 = .ok (.iconst 1, 1) := by decide +kernel
theorem dX9_deals_84 : decode cX9_deals 84 = .ok (.istore_n 3, 1) := by decide +kernel
theorem dX9_deals_85 : decode cX9_deals 85 = .ok (.iload_n 3, 1) := by decide +kernel
theorem dX9_deals_86 : decode cX9_deals 86 = .ok (.ifCond .eq 75, 3) := by decide +kernel
theorem dX9_deals_89 : decode cX9_deals 89 = .ok (.iconst 0, 1) := by decide +kernel
theorem dX9_deals_90 : decode cX9_deals 90 = .ok (.istore 4, 2) := by decide +kernel
theorem dX9_deals_92 : decode cX9_deals 92 = .ok (.iconst 0, 1) := by decide +kernel
theorem dX9_deals_93 : decode cX9_deals 93 = .ok (.istore 5, 2) := by decide +kernel
theorem dX9_deals_95 : decode cX9_deals 95 = .ok (.iload 5, 2) := by decide +kernel
theorem dX9_deals_97 : decode cX9_deals 97 = .ok (.iload_n 1, 1) := by decide +kernel
theorem dX9_deals_98 : decode cX9_deals 98 = .ok (.if_icmp .ge 31, 3) := by decide +kernel
theorem dX9_deals_101 : decode cX9_deals 101 = .ok (.iload 4, 2) := by decide +kernel
theorem dX9_deals_103 : decode cX9_deals 103 = .ok (.aload_n 0, 1) := by decide +kernel
theorem dX9_deals_104 : decode cX9_deals 104 = .ok (.getfield 52, 3) := by decide +kernel
theorem dX9_deals_107 : decode cX9_deals 107 = .ok (.iconst 5, 1) := by decide +kernel
theorem dX9_deals_108 : decode cX9_deals 108 = .ok (.iload 5, 2) := by decide +kernel
theorem dX9_deals_110 : decode cX9_deals 110 = .ok (.imul, 1) := by decide +kernel
theorem dX9_deals_111 : decode cX9_deals 111 = .ok (.aload_n 0, 1) := by decide +kernel
theorem dX9_deals_112 : decode cX9_deals 112 = .ok (.getfield 46, 3) := by decide +kernel
theorem dX9_deals_115 : decode cX9_deals 115 = .ok (.iload 5, 2) := by decide +kernel
theorem dX9_deals_117 : decode cX9_deals 117 = .ok (.iaload, 1) := by decide +kernel
theorem dX9_deals_118 : decode cX9_deals 118 = .ok (.iadd, 1) := by decide +kernel
theorem dX9_deals_119 : decode cX9_deals 119 = .ok (.iaload, 1) := by decide +kernel
theorem dX9_deals_120 : decode cX9_deals 120 = .ok (.iadd, 1) := by decide +kernel
theorem dX9_deals_121 : decode cX9_deals 121 = .ok (.istore 4, 2) := by decide +kernel
theorem dX9_deals_123 : decode cX9_deals 123 = .ok (.iinc 5 1, 3) := by decide +kernel
theorem dX9_deals_126 : decode cX9_deals 126 = .ok (.goto (-31), 3) := by decide +kernel
theorem dX9_deals_129 : decode cX9_deals 129 = .ok (.iload 4, 2) := by decide +kernel
theorem dX9_deals_131 : decode cX9_deals 131 = .ok (.iload_n 2, 1) := by decide +kernel
theorem dX9_deals_132 : decode cX9_deals 132 = .ok (.if_icmp .ge 20, 3) := by decide +kernel
theorem dX9_deals_135 : decode cX9_deals 135 = .ok (.iload 4, 2) := by decide +kernel
theorem dX9_deals_137 : decode cX9_deals 137 = .ok (.istore_n 2, 1) := by decide +kernel
theorem dX9_deals_138 : decode cX9_deals 138 = .ok (.aload_n 0, 1) := by decide +kernel
theorem dX9_deals_139 : decode cX9_deals 139 = .ok (.getfield 46, 3) := by decide +kernel
theorem dX9_deals_142 : decode cX9_deals 142 = .ok (.iconst 0, 1) := by decide +kernel
theorem dX9_deals_143 : decode cX9_deals 143 = .ok (.aload_n 0, 1) := by decide +kernel
theorem dX9_deals_144 : decode cX9_deals 144 = .ok (.getfield 49, 3) := by decide +kernel
theorem dX9_deals_147 : decode cX9_deals 147 = .ok (.iconst 0, 1) := by decide +kernel
theorem dX9_deals_148 : decode cX9_deals 148 = .ok (.iload_n 1, 1) := by decide +kernel
theorem dX9_deals_149 : decode cX9_deals 149 = .ok (.invokestatic 148, 3) := by decide +kernel
theorem dX9_deals_152 : decode cX9_deals 152 = .ok (.aload_n 0, 1) := by decide +kernel
theorem dX9_deals_153 : decode cX9_deals 153 = .ok (.iload_n 1, 1) := by decide +kernel
theorem dX9_deals_154 : decode cX9_deals 154 = .ok (.invokevirtual 255, 3) := by decide +kernel
theorem dX9_deals_157 : decode cX9_deals 157 = .ok (.istore_n 3, 1) := by decide +kernel
theorem dX9_deals_158 : decode cX9_deals 158 = .ok (.goto (-73), 3) := by decide +kernel
theorem dX9_deals_161 : decode cX9_deals 161 = .ok (.iload_n 2, 1) := by decide +kernel
theorem dX9_deals_162 : decode cX9_deals 162 = .ok (.ireturn, 1) := by decide +kernel
theorem dX9_send_0 : decode cX9_send 0 = .ok (.iload_n 1, 1) := by decide +kernel
theorem dX9_send_1 : decode cX9_send 1 = .ok (.iconst (-1), 1) := by decide +kernel
theorem dX9_send_2 : decode cX9_send 2 = .ok (.if_icmp .eq 13, 3) := by decide +kernel
theorem dX9_send_5 : decode cX9_send 5 = .ok (.aload_n 0, 1) := by decide +kernel
theorem dX9_send_6 : decode cX9_send 6 = .ok (.iload_n 1, 1) := by decide +kernel
theorem dX9_send_7 : decode cX9_send 7 = .ok (.invokevirtual 165, 3) := by decide +kernel
theorem dX9_send_10 : decode cX9_send 10 = .ok (.ifCond .ne 5, 3) := by decide +kernel
theorem dX9_send_13 : decode cX9_send 13 = .ok (.iconst (-1), 1) := by decide +kernel
theorem dX9_send_14 : decode cX9_send 14 = .ok (.ireturn, 1) := by decide +kernel
theorem dX9_send_15 : decode cX9_send 15 = .ok (.aload_n 0, 1) := by decide +kernel
theorem dX9_send_16 : decode cX9_send 16 = .ok (.invokevirtual 258, 3) := by decide +kernel
theorem dX9_send_19 : decode cX9_send 19 = .ok (.istore_n 2, 1) := by decide +kernel
theorem dX9_send_20 : decode cX9_send 20 = .ok (.aload_n 0, 1) := by decide +kernel
theorem dX9_send_21 : decode cX9_send 21 = .ok (.iload_n 2, 1) := by decide +kernel
theorem dX9_send_22 : decode cX9_send 22 = .ok (.invokevirtual 261, 3) := by decide +kernel
theorem dX9_send_25 : decode cX9_send 25 = .ok (.istore_n 3, 1) := by decide +kernel
theorem dX9_send_26 : decode cX9_send 26 = .ok (.bipush (-4), 2) := by decide +kernel
theorem dX9_send_28 : decode cX9_send 28 = .ok (.istore 4, 2) := by decide +kernel
theorem dX9_send_30 : decode cX9_send 30 = .ok (.iconst 0, 1) := by decide +kernel
theorem dX9_send_31 : decode cX9_send 31 = .ok (.istore 5, 2) := by decide +kernel
theorem dX9_send_33 : decode cX9_send 33 = .ok (.iload 5, 2) := by decide +kernel
theorem dX9_send_35 : decode cX9_send 35 = .ok (.iload_n 2, 1) := by decide +kernel
theorem dX9_send_36 : decode cX9_send 36 = .ok (.if_icmp .ge 46, 3) := by decide +kernel
theorem dX9_send_39 : decode cX9_send 39 = .ok (.aload_n 0, 1) := by decide +kernel
theorem dX9_send_40 : decode cX9_send 40 = .ok (.getfield 43, 3) := by decide +kernel
theorem dX9_send_43 : decode cX9_send 43 = .ok (.iload 5, 2) := by decide +kernel
theorem dX9_send_45 : decode cX9_send 45 = .ok (.iaload, 1) := by decide +kernel
theorem dX9_send_46 : decode cX9_send 46 = .ok (.iload_n 1, 1) := by decide +kernel
theorem dX9_send_47 : decode cX9_send 47 = .ok (.if_icmp .ne 25, 3) := by decide +kernel
theorem dX9_send_50 : decode cX9_send 50 = .ok (.aload_n 0, 1) := by decide +kernel
theorem dX9_send_51 : decode cX9_send 51 = .ok (.getfield 16, 3) := by decide +kernel
theorem dX9_send_54 : decode cX9_send 54 = .ok (.iconst 0, 1) := by decide +kernel
theorem dX9_send_55 : decode cX9_send 55 = .ok (.aload_n 0, 1) := by decide +kernel
theorem dX9_send_56 : decode cX9_send 56 = .ok (.getfield 43, 3) := by decide +kernel
theorem dX9_send_59 : decode cX9_send 59 = .ok (.aload_n 0, 1) := by decide +kernel
theorem dX9_send_60 : decode cX9_send 60 = .ok (.getfield 49, 3) := by decide +kernel
theorem dX9_send_63 : decode cX9_send 63 = .ok (.iload 5, 2) := by decide +kernel
theorem dX9_send_65 : decode cX9_send 65 = .ok (.iaload, 1) := by decide +kernel
theorem dX9_send_66 : decode cX9_send 66 = .ok (.iaload, 1) := by decide +kernel
theorem dX9_send_67 : decode cX9_send 67 = .ok (.iadd, 1) := by decide +kernel
theorem dX9_send_68 : decode cX9_send 68 = .ok (.iaload, 1) := by decide +kernel
theorem dX9_send_69 : decode cX9_send 69 = .ok (.goto 5, 3) := by decide +kernel
theorem dX9_send_72 : decode cX9_send 72 = .ok (.iload 4, 2) := by decide +kernel
theorem dX9_send_74 : decode cX9_send 74 = .ok (.istore 4, 2) := by decide +kernel
theorem dX9_send_76 : decode cX9_send 76 = .ok (.iinc 5 1, 3) := by decide +kernel
theorem dX9_send_79 : decode cX9_send 79 = .ok (.goto (-46), 3) := by decide +kernel
theorem dX9_send_82 : decode cX9_send 82 = .ok (.iload_n 1, 1) := by decide +kernel
theorem dX9_send_83 : decode cX9_send 83 = .ok (.iconst (-1), 1) := by decide +kernel
theorem dX9_send_84 : decode cX9_send 84 = .ok (.if_icmp .ne 7, 3) := by decide +kernel
theorem dX9_send_87 : decode cX9_send 87 = .ok (.iload_n 3, 1) := by decide +kernel
theorem dX9_send_88 : decode cX9_send 88 = .ok (.goto 5, 3) := by decide +kernel
theorem dX9_send_91 : decode cX9_send 91 = .ok (.iload 4, 2) := by decide +kernel
theorem dX9_send_93 : decode cX9_send 93 = .ok (.ireturn, 1) := by decide +kernel
theorem dX9_queues_0 : decode cX9_queues 0 = .ok (.iconst 0, 1) := by decide +kernel
theorem dX9_queues_1 : decode cX9_queues 1 = .ok (.istore_n 2, 1) := by decide +kernel
theorem dX9_queues_2 : decode cX9_queues 2 = .ok (.iload_n 2, 1) := by decide +kernel
theorem dX9_queues_3 : decode cX9_queues 3 = .ok (.iload_n 1, 1) := by decide +kernel
theorem dX9_queues_4 : decode cX9_queues 4 = .ok (.if_icmp .ge 52, 3) := by decide +kernel
theorem dX9_queues_7 : decode cX9_queues 7 = .ok (.aload_n 0, 1) := by decide +kernel
theorem dX9_queues_8 : decode cX9_queues 8 = .ok (.aload_n 0, 1) := by decide +kernel
theorem dX9_queues_9 : decode cX9_queues 9 = .ok (.getfield 43, 3) := by decide +kernel
theorem dX9_queues_12 : decode cX9_queues 12 = .ok (.iload_n 2, 1) := by decide +kernel
theorem dX9_queues_13 : decode cX9_queues 13 = .ok (.iaload, 1) := by decide +kernel
theorem dX9_queues_14 : decode cX9_queues 14 = .ok (.aload_n 0, 1) := by decide +kernel
theorem dX9_queues_15 : decode cX9_queues 15 = .ok (.getfield 16, 3) := by decide +kernel
theorem dX9_queues_18 : decode cX9_queues 18 = .ok (.iconst 0, 1) := by decide +kernel
theorem dX9_queues_19 : decode cX9_queues 19 = .ok (.aload_n 0, 1) := by decide +kernel
theorem dX9_queues_20 : decode cX9_queues 20 = .ok (.getfield 43, 3) := by decide +kernel
theorem dX9_queues_23 : decode cX9_queues 23 = .ok (.iload_n 2, 1) := by decide +kernel
theorem dX9_queues_24 : decode cX9_queues 24 = .ok (.iaload, 1) := by decide +kernel
theorem dX9_queues_25 : decode cX9_queues 25 = .ok (.iadd, 1) := by decide +kernel
theorem dX9_queues_26 : decode cX9_queues 26 = .ok (.iaload, 1) := by decide +kernel
theorem dX9_queues_27 : decode cX9_queues 27 = .ok (.invokevirtual 246, 3) := by decide +kernel
theorem dX9_queues_30 : decode cX9_queues 30 = .ok (.istore_n 3, 1) := by decide +kernel
theorem dX9_queues_31 : decode cX9_queues 31 = .ok (.aload_n 0, 1) := by decide +kernel
theorem dX9_queues_32 : decode cX9_queues 32 = .ok (.getfield 52, 3) := by decide +kernel
theorem dX9_queues_35 : decode cX9_queues 35 = .ok (.iload_n 2, 1) := by decide +kernel
theorem dX9_queues_36 : decode cX9_queues 36 = .ok (.iload_n 3, 1) := by decide +kernel
theorem dX9_queues_37 : decode cX9_queues 37 = .ok (.bipush (-4), 2) := by decide +kernel
theorem dX9_queues_39 : decode cX9_queues 39 = .ok (.if_icmp .ne 7, 3) := by decide +kernel
theorem dX9_queues_42 : decode cX9_queues 42 = .ok (.iconst 5, 1) := by decide +kernel
theorem dX9_queues_43 : decode cX9_queues 43 = .ok (.goto 6, 3) := by decide +kernel
theorem dX9_queues_46 : decode cX9_queues 46 = .ok (.iconst 1, 1) := by decide +kernel
theorem dX9_queues_47 : decode cX9_queues 47 = .ok (.iload_n 3, 1) := by decide +kernel
theorem dX9_queues_48 : decode cX9_queues 48 = .ok (.iadd, 1) := by decide +kernel
theorem dX9_queues_49 : decode cX9_queues 49 = .ok (.iastore, 1) := by decide +kernel
theorem dX9_queues_50 : decode cX9_queues 50 = .ok (.iinc 2 1, 3) := by decide +kernel
theorem dX9_queues_53 : decode cX9_queues 53 = .ok (.goto (-51), 3) := by decide +kernel
theorem dX9_queues_56 : decode cX9_queues 56 = .ok (.ldc 250, 2) := by decide +kernel
theorem dX9_queues_58 : decode cX9_queues 58 = .ok (.istore_n 2, 1) := by decide +kernel
theorem dX9_queues_59 : decode cX9_queues 59 = .ok (.aload_n 0, 1) := by decide +kernel
theorem dX9_queues_60 : decode cX9_queues 60 = .ok (.iload_n 1, 1) := by decide +kernel
theorem dX9_queues_61 : decode cX9_queues 61 = .ok (.invokevirtual 251, 3) := by decide +kernel
theorem dX9_queues_64 : decode cX9_queues 64 = .ok (.iconst 1, 1) := by decide +kernel
theorem dX9_queues_65 : decode cX9_queues 65 = .ok (.istore_n 3, 1) := by decide +kernel
theorem dX9_queues_66 : decode cX9_queues 66 = .ok (.iload_n 3, 1) := by decide +kernel
theorem dX9_queues_67 : decode cX9_queues 67 = .ok (.ifCond .eq 80, 3) := by decide +kernel
theorem dX9_queues_70 : decode cX9_queues 70 = .ok (.iconst 0, 1) := by decide +kernel
theorem dX9_queues_71 : decode cX9_queues 71 = .ok (.istore 4, 2) := by decide +kernel
theorem dX9_queues_73 : decode cX9_queues 73 = .ok (.iconst 0, 1) := by decide +kernel
theorem dX9_queues_74 : decode cX9_queues 74 = .ok (.istore 5, 2) := by decide +kernel
theorem dX9_queues_76 : decode cX9_queues 76 = .ok (.iconst 0, 1) := by decide +kernel
theorem dX9_queues_77 : decode cX9_queues 77 = .ok (.istore 6, 2) := by decide +kernel
theorem dX9_queues_79 : decode cX9_queues 79 = .ok (.iload 6, 2) := by decide +kernel
theorem dX9_queues_81 : decode cX9_queues 81 = .ok (.iload_n 1, 1) := by decide +kernel
theorem dX9_queues_82 : decode cX9_queues 82 = .ok (.if_icmp .ge 33, 3) := by decide +kernel
theorem dX9_queues_85 : decode cX9_queues 85 = .ok (.iload 4, 2) := by decide +kernel
theorem dX9_queues_87 : decode cX9_queues 87 = .ok (.iload 5, 2) := by decide +kernel
theorem dX9_queues_89 : decode cX9_queues 89 = .ok (.iadd, 1) := by decide +kernel
theorem dX9_queues_90 : decode cX9_queues 90 = .ok (.istore 4, 2) := by decide +kernel
theorem dX9_queues_92 : decode cX9_queues 92 = .ok (.iload 5, 2) := by decide +kernel
theorem dX9_queues_94 : decode cX9_queues 94 = .ok (.aload_n 0, 1) := by decide +kernel
theorem dX9_queues_95 : decode cX9_queues 95 = .ok (.getfield 52, 3) := by decide +kernel
theorem dX9_queues_98 : decode cX9_queues 98 = .ok (.aload_n 0, 1) := by decide +kernel
theorem dX9_queues_99 : decode cX9_queues 99 = .ok (.getfield 46, 3) := by decide +kernel
theorem dX9_queues_102 : decode cX9_queues 102 = .ok (.iload 6, 2) := by decide +kernel
theorem dX9_queues_104 : decode cX9_queues 104 = .ok (.iaload, 1) := by decide +kernel
theorem dX9_queues_105 : decode cX9_queues 105 = .ok (.iaload, 1) := by decide +kernel
theorem dX9_queues_106 : decode cX9_queues 106 = .ok (.iadd, 1) := by decide +kernel
theorem dX9_queues_107 : decode cX9_queues 107 = .ok (.istore 5, 2) := by decide +kernel
theorem dX9_queues_109 : decode cX9_queues 109 = .ok (.iinc 6 1, 3) := by decide +kernel
theorem dX9_queues_112 : decode cX9_queues 112 = .ok (.goto (-33), 3) := by decide +kernel
theorem dX9_queues_115 : decode cX9_queues 115 = .ok (.iload 4, 2) := by decide +kernel
theorem dX9_queues_117 : decode cX9_queues 117 = .ok (.iload_n 2, 1) := by decide +kernel
theorem dX9_queues_118 : decode cX9_queues 118 = .ok (.if_icmp .ge 20, 3) := by decide +kernel
theorem dX9_queues_121 : decode cX9_queues 121 = .ok (.iload 4, 2) := by decide +kernel
theorem dX9_queues_123 : decode cX9_queues 123 = .ok (.istore_n 2, 1) := by decide +kernel
theorem dX9_queues_124 : decode cX9_queues 124 = .ok (.aload_n 0, 1) := by decide +kernel
theorem dX9_queues_125 : decode cX9_queues 125 = .ok (.getfield 46, 3) := by decide +kernel
theorem dX9_queues_128 : decode cX9_queues 128 = .ok (.iconst 0, 1) := by decide +kernel
theorem dX9_queues_129 : decode cX9_queues 129 = .ok (.aload_n 0, 1) := by decide +kernel
theorem dX9_queues_130 : decode cX9_queues 130 = .ok (.getfield 49, 3) := by decide +kernel
theorem dX9_queues_133 : decode cX9_queues 133 = .ok (.iconst 0, 1) := by decide +kernel
theorem dX9_queues_134 : decode cX9_queues 134 = .ok (.iload_n 1, 1) := by decide +kernel
theorem dX9_queues_135 : decode cX9_queues 135 = .ok (.invokestatic 148, 3) := by decide +kernel
theorem dX9_queues_138 : decode cX9_queues 138 = .ok (.aload_n 0, 1) := by decide +kernel
theorem dX9_queues_139 : decode cX9_queues 139 = .ok (.iload_n 1, 1) := by decide +kernel
theorem dX9_queues_140 : decode cX9_queues 140 = .ok (.invokevirtual 255, 3) := by decide +kernel
theorem dX9_queues_143 : decode cX9_queues 143 = .ok (.istore_n 3, 1) := by decide +kernel
theorem dX9_queues_144 : decode cX9_queues 144 = .ok (.goto (-78), 3) := by decide +kernel
theorem dX9_queues_147 : decode cX9_queues 147 = .ok (.iload_n 2, 1) := by decide +kernel
theorem dX9_queues_148 : decode cX9_queues 148 = .ok (.ireturn, 1) := by decide +kernel
theorem dX9_waitingOnes_0 : decode cX9_waitingOnes 0 = .ok (.iconst 0, 1) := by decide +kernel
theorem dX9_waitingOnes_1 : decode cX9_waitingOnes 1 = .ok (.istore_n 1, 1) := by decide +kernel
theorem dX9_waitingOnes_2 : decode cX9_waitingOnes 2 = .ok (.iconst 0, 1) := by decide +kernel
theorem dX9_waitingOnes_3 : decode cX9_waitingOnes 3 = .ok (.istore_n 2, 1) := by decide +kernel
theorem dX9_waitingOnes_4 : decode cX9_waitingOnes 4 = .ok (.iload_n 2, 1) := by decide +kernel
theorem dX9_waitingOnes_5 : decode cX9_waitingOnes 5 = .ok (.aload_n 0, 1) := by decide +kernel
theorem dX9_waitingOnes_6 : decode cX9_waitingOnes 6 = .ok (.getfield 7, 3) := by decide +kernel
theorem dX9_waitingOnes_9 : decode cX9_waitingOnes 9 = .ok (.iconst 2, 1) := by decide +kernel
theorem dX9_waitingOnes_10 : decode cX9_waitingOnes 10 = .ok (.iaload, 1) := by decide +kernel
theorem dX9_waitingOnes_11 : decode cX9_waitingOnes 11 = .ok (.if_icmp .ge 27, 3) := by decide +kernel
theorem dX9_waitingOnes_14 : decode cX9_waitingOnes 14 = .ok (.aload_n 0, 1) := by decide +kernel
theorem dX9_waitingOnes_15 : decode cX9_waitingOnes 15 = .ok (.iload_n 2, 1) := by decide +kernel
theorem dX9_waitingOnes_16 : decode cX9_waitingOnes 16 = .ok (.invokevirtual 206, 3) := by decide +kernel
theorem dX9_waitingOnes_19 : decode cX9_waitingOnes 19 = .ok (.ifCond .eq 13, 3) := by decide +kernel
theorem dX9_waitingOnes_22 : decode cX9_waitingOnes 22 = .ok (.aload_n 0, 1) := by decide +kernel
theorem dX9_waitingOnes_23 : decode cX9_waitingOnes 23 = .ok (.getfield 43, 3) := by decide +kernel
theorem dX9_waitingOnes_26 : decode cX9_waitingOnes 26 = .ok (.iload_n 1, 1) := by decide +kernel
theorem dX9_waitingOnes_27 : decode cX9_waitingOnes 27 = .ok (.iload_n 2, 1) := by decide +kernel
theorem dX9_waitingOnes_28 : decode cX9_waitingOnes 28 = .ok (.iastore, 1) := by decide +kernel
theorem dX9_waitingOnes_29 : decode cX9_waitingOnes 29 = .ok (.iinc 1 1, 3) := by decide +kernel
theorem dX9_waitingOnes_32 : decode cX9_waitingOnes 32 = .ok (.iinc 2 1, 3) := by decide +kernel
theorem dX9_waitingOnes_35 : decode cX9_waitingOnes 35 = .ok (.goto (-31), 3) := by decide +kernel
theorem dX9_waitingOnes_38 : decode cX9_waitingOnes 38 = .ok (.iload_n 1, 1) := by decide +kernel
theorem dX9_waitingOnes_39 : decode cX9_waitingOnes 39 = .ok (.ireturn, 1) := by decide +kernel
theorem dX9_queue_0 : decode cX9_queue 0 = .ok (.iload_n 1, 1) := by decide +kernel
theorem dX9_queue_1 : decode cX9_queue 1 = .ok (.iconst (-1), 1) := by decide +kernel
theorem dX9_queue_2 : decode cX9_queue 2 = .ok (.if_icmp .ge 5, 3) := by decide +kernel
theorem dX9_queue_5 : decode cX9_queue 5 = .ok (.iconst (-1), 1) := by decide +kernel
theorem dX9_queue_6 : decode cX9_queue 6 = .ok (.ireturn, 1) := by decide +kernel
theorem dX9_queue_7 : decode cX9_queue 7 = .ok (.aload_n 0, 1) := by decide +kernel
theorem dX9_queue_8 : decode cX9_queue 8 = .ok (.invokevirtual 264, 3) := by decide +kernel
theorem dX9_queue_11 : decode cX9_queue 11 = .ok (.istore_n 2, 1) := by decide +kernel
theorem dX9_queue_12 : decode cX9_queue 12 = .ok (.aload_n 0, 1) := by decide +kernel
theorem dX9_queue_13 : decode cX9_queue 13 = .ok (.iload_n 2, 1) := by decide +kernel
theorem dX9_queue_14 : decode cX9_queue 14 = .ok (.invokevirtual 267, 3) := by decide +kernel
theorem dX9_queue_17 : decode cX9_queue 17 = .ok (.istore_n 3, 1) := by decide +kernel
theorem dX9_queue_18 : decode cX9_queue 18 = .ok (.iload_n 1, 1) := by decide +kernel
theorem dX9_queue_19 : decode cX9_queue 19 = .ok (.iconst (-1), 1) := by decide +kernel
theorem dX9_queue_20 : decode cX9_queue 20 = .ok (.if_icmp .ne 7, 3) := by decide +kernel
theorem dX9_queue_23 : decode cX9_queue 23 = .ok (.iload_n 3, 1) := by decide +kernel
theorem dX9_queue_24 : decode cX9_queue 24 = .ok (.goto 24, 3) := by decide +kernel
theorem dX9_queue_27 : decode cX9_queue 27 = .ok (.iload_n 1, 1) := by decide +kernel
theorem dX9_queue_28 : decode cX9_queue 28 = .ok (.iload_n 2, 1) := by decide +kernel
theorem dX9_queue_29 : decode cX9_queue 29 = .ok (.if_icmp .ge 17, 3) := by decide +kernel
theorem dX9_queue_32 : decode cX9_queue 32 = .ok (.aload_n 0, 1) := by decide +kernel
theorem dX9_queue_33 : decode cX9_queue 33 = .ok (.getfield 43, 3) := by decide +kernel
theorem dX9_queue_36 : decode cX9_queue 36 = .ok (.aload_n 0, 1) := by decide +kernel
theorem dX9_queue_37 : decode cX9_queue 37 = .ok (.getfield 49, 3) := by decide +kernel
theorem dX9_queue_40 : decode cX9_queue 40 = .ok (.iload_n 1, 1) := by decide +kernel
theorem dX9_queue_41 : decode cX9_queue 41 = .ok (.iaload, 1) := by decide +kernel
theorem dX9_queue_42 : decode cX9_queue 42 = .ok (.iaload, 1) := by decide +kernel
theorem dX9_queue_43 : decode cX9_queue 43 = .ok (.goto 5, 3) := by decide +kernel
theorem dX9_queue_46 : decode cX9_queue 46 = .ok (.bipush (-4), 2) := by decide +kernel
theorem dX9_queue_48 : decode cX9_queue 48 = .ok (.ireturn, 1) := by decide +kernel
theorem dX9_parted_0 : decode cX9_parted 0 = .ok (.aload_n 0, 1) := by decide +kernel
theorem dX9_parted_1 : decode cX9_parted 1 = .ok (.iload_n 1, 1) := by decide +kernel
theorem dX9_parted_2 : decode cX9_parted 2 = .ok (.invokevirtual 155, 3) := by decide +kernel
theorem dX9_parted_5 : decode cX9_parted 5 = .ok (.ifCond .eq 16, 3) := by decide +kernel
theorem dX9_parted_8 : decode cX9_parted 8 = .ok (.aload_n 0, 1) := by decide +kernel
theorem dX9_parted_9 : decode cX9_parted 9 = .ok (.iload_n 2, 1) := by decide +kernel
theorem dX9_parted_10 : decode cX9_parted 10 = .ok (.invokevirtual 155, 3) := by decide +kernel
theorem dX9_parted_13 : decode cX9_parted 13 = .ok (.ifCond .eq 8, 3) := by decide +kernel
theorem dX9_parted_16 : decode cX9_parted 16 = .ok (.iload_n 1, 1) := by decide +kernel
theorem dX9_parted_17 : decode cX9_parted 17 = .ok (.iload_n 2, 1) := by decide +kernel
theorem dX9_parted_18 : decode cX9_parted 18 = .ok (.if_icmp .ne 5, 3) := by decide +kernel
theorem dX9_parted_21 : decode cX9_parted 21 = .ok (.iconst (-1), 1) := by decide +kernel
theorem dX9_parted_22 : decode cX9_parted 22 = .ok (.ireturn, 1) := by decide +kernel
theorem dX9_parted_23 : decode cX9_parted 23 = .ok (.iconst 0, 1) := by decide +kernel
theorem dX9_parted_24 : decode cX9_parted 24 = .ok (.istore_n 3, 1) := by decide +kernel
theorem dX9_parted_25 : decode cX9_parted 25 = .ok (.iconst 0, 1) := by decide +kernel
theorem dX9_parted_26 : decode cX9_parted 26 = .ok (.istore 4, 2) := by decide +kernel
theorem dX9_parted_28 : decode cX9_parted 28 = .ok (.iload 4, 2) := by decide +kernel
theorem dX9_parted_30 : decode cX9_parted 30 = .ok (.aload_n 0, 1) := by decide +kernel
theorem dX9_parted_31 : decode cX9_parted 31 = .ok (.invokevirtual 152, 3) := by decide +kernel
theorem dX9_parted_34 : decode cX9_parted 34 = .ok (.if_icmp .ge 75, 3) := by decide +kernel
theorem dX9_parted_37 : decode cX9_parted 37 = .ok (.aload_n 0, 1) := by decide +kernel
theorem dX9_parted_38 : decode cX9_parted 38 = .ok (.iconst 0, 1) := by decide +kernel
theorem dX9_parted_39 : decode cX9_parted 39 = .ok (.iload_n 1, 1) := by decide +kernel
theorem dX9_parted_40 : decode cX9_parted 40 = .ok (.iload 4, 2) := by decide +kernel
theorem dX9_parted_42 : decode cX9_parted 42 = .ok (.aload_n 0, 1) := by decide +kernel
theorem dX9_parted_43 : decode cX9_parted 43 = .ok (.getfield 7, 3) := by decide +kernel
theorem dX9_parted_46 : decode cX9_parted 46 = .ok (.iconst 4, 1) := by decide +kernel
theorem dX9_parted_47 : decode cX9_parted 47 = .ok (.iaload, 1) := by decide +kernel
theorem dX9_parted_48 : decode cX9_parted 48 = .ok (.aload_n 0, 1) := by decide +kernel
theorem dX9_parted_49 : decode cX9_parted 49 = .ok (.getfield 7, 3) := by decide +kernel
theorem dX9_parted_52 : decode cX9_parted 52 = .ok (.iconst 5, 1) := by decide +kernel
theorem dX9_parted_53 : decode cX9_parted 53 = .ok (.iaload, 1) := by decide +kernel
theorem dX9_parted_54 : decode cX9_parted 54 = .ok (.invokevirtual 175, 3) := by decide +kernel
theorem dX9_parted_57 : decode cX9_parted 57 = .ok (.aload_n 0, 1) := by decide +kernel
theorem dX9_parted_58 : decode cX9_parted 58 = .ok (.iconst 0, 1) := by decide +kernel
theorem dX9_parted_59 : decode cX9_parted 59 = .ok (.iload_n 2, 1) := by decide +kernel
theorem dX9_parted_60 : decode cX9_parted 60 = .ok (.iload 4, 2) := by decide +kernel
theorem dX9_parted_62 : decode cX9_parted 62 = .ok (.aload_n 0, 1) := by decide +kernel
theorem dX9_parted_63 : decode cX9_parted 63 = .ok (.getfield 7, 3) := by decide +kernel
theorem dX9_parted_66 : decode cX9_parted 66 = .ok (.iconst 4, 1) := by decide +kernel
theorem dX9_parted_67 : decode cX9_parted 67 = .ok (.iaload, 1) := by decide +kernel
theorem dX9_parted_68 : decode cX9_parted 68 = .ok (.aload_n 0, 1) := by decide +kernel
theorem dX9_parted_69 : decode cX9_parted 69 = .ok (.getfield 7, 3) := by decide +kernel
theorem dX9_parted_72 : decode cX9_parted 72 = .ok (.iconst 5, 1) := by decide +kernel
theorem dX9_parted_73 : decode cX9_parted 73 = .ok (.iaload, 1) := by decide +kernel
theorem dX9_parted_74 : decode cX9_parted 74 = .ok (.invokevirtual 175, 3) := by decide +kernel
theorem dX9_parted_77 : decode cX9_parted 77 = .ok (.if_icmp .ne 7, 3) := by decide +kernel
theorem dX9_parted_80 : decode cX9_parted 80 = .ok (.iconst 1, 1) := by decide +kernel
theorem dX9_parted_81 : decode cX9_parted 81 = .ok (.goto 4, 3) := by decide +kernel
theorem dX9_parted_84 : decode cX9_parted 84 = .ok (.iconst 0, 1) := by decide +kernel
theorem dX9_parted_85 : decode cX9_parted 85 = .ok (.istore 5, 2) := by decide +kernel
theorem dX9_parted_87 : decode cX9_parted 87 = .ok (.iload_n 3, 1) := by decide +kernel
theorem dX9_parted_88 : decode cX9_parted 88 = .ok (.iload 5, 2) := by decide +kernel
theorem dX9_parted_90 : decode cX9_parted 90 = .ok (.ifCond .eq 7, 3) := by decide +kernel
theorem dX9_parted_93 : decode cX9_parted 93 = .ok (.iconst 0, 1) := by decide +kernel
theorem dX9_parted_94 : decode cX9_parted 94 = .ok (.goto 7, 3) := by decide +kernel
theorem dX9_parted_97 : decode cX9_parted 97 = .ok (.iconst 1, 1) := by decide +kernel
theorem dX9_parted_98 : decode cX9_parted 98 = .ok (.iload 4, 2) := by decide +kernel
theorem dX9_parted_100 : decode cX9_parted 100 = .ok (.ishl, 1) := by decide +kernel
theorem dX9_parted_101 : decode cX9_parted 101 = .ok (.ior, 1) := by decide +kernel
theorem dX9_parted_102 : decode cX9_parted 102 = .ok (.istore_n 3, 1) := by decide +kernel
theorem dX9_parted_103 : decode cX9_parted 103 = .ok (.iinc 4 1, 3) := by decide +kernel
theorem dX9_parted_106 : decode cX9_parted 106 = .ok (.goto (-78), 3) := by decide +kernel
theorem dX9_parted_109 : decode cX9_parted 109 = .ok (.iload_n 3, 1) := by decide +kernel
theorem dX9_parted_110 : decode cX9_parted 110 = .ok (.ireturn, 1) := by decide +kernel
theorem dX9_most_0 : decode cX9_most 0 = .ok (.iconst 0, 1) := by decide +kernel
theorem dX9_most_1 : decode cX9_most 1 = .ok (.istore_n 1, 1) := by decide +kernel
theorem dX9_most_2 : decode cX9_most 2 = .ok (.iconst 0, 1) := by decide +kernel
theorem dX9_most_3 : decode cX9_most 3 = .ok (.istore_n 2, 1) := by decide +kernel
theorem dX9_most_4 : decode cX9_most 4 = .ok (.iload_n 2, 1) := by decide +kernel
theorem dX9_most_5 : decode cX9_most 5 = .ok (.aload_n 0, 1) := by decide +kernel
theorem dX9_most_6 : decode cX9_most 6 = .ok (.getfield 7, 3) := by decide +kernel
theorem dX9_most_9 : decode cX9_most 9 = .ok (.iconst 2, 1) := by decide +kernel
theorem dX9_most_10 : decode cX9_most 10 = .ok (.iaload, 1) := by decide +kernel
theorem dX9_most_11 : decode cX9_most 11 = .ok (.if_icmp .ge 80, 3) := by decide +kernel
theorem dX9_most_14 : decode cX9_most 14 = .ok (.aload_n 0, 1) := by decide +kernel
theorem dX9_most_15 : decode cX9_most 15 = .ok (.iload_n 2, 1) := by decide +kernel
theorem dX9_most_16 : decode cX9_most 16 = .ok (.invokevirtual 206, 3) := by decide +kernel
theorem dX9_most_19 : decode cX9_most 19 = .ok (.ifCond .eq 19, 3) := by decide +kernel
theorem dX9_most_22 : decode cX9_most 22 = .ok (.aload_n 0, 1) := by decide +kernel
theorem dX9_most_23 : decode cX9_most 23 = .ok (.iload_n 2, 1) := by decide +kernel
theorem dX9_most_24 : decode cX9_most 24 = .ok (.aload_n 0, 1) := by decide +kernel
theorem dX9_most_25 : decode cX9_most 25 = .ok (.getfield 16, 3) := by decide +kernel
theorem dX9_most_28 : decode cX9_most 28 = .ok (.iconst 0, 1) := by decide +kernel
theorem dX9_most_29 : decode cX9_most 29 = .ok (.iload_n 2, 1) := by decide +kernel
theorem dX9_most_30 : decode cX9_most 30 = .ok (.iadd, 1) := by decide +kernel
theorem dX9_most_31 : decode cX9_most 31 = .ok (.iaload, 1) := by decide +kernel
theorem dX9_most_32 : decode cX9_most 32 = .ok (.invokevirtual 246, 3) := by decide +kernel
theorem dX9_most_35 : decode cX9_most 35 = .ok (.goto 5, 3) := by decide +kernel
theorem dX9_most_38 : decode cX9_most 38 = .ok (.bipush (-4), 2) := by decide +kernel
theorem dX9_most_40 : decode cX9_most 40 = .ok (.istore_n 3, 1) := by decide +kernel
theorem dX9_most_41 : decode cX9_most 41 = .ok (.iload_n 1, 1) := by decide +kernel
theorem dX9_most_42 : decode cX9_most 42 = .ok (.iload_n 3, 1) := by decide +kernel
theorem dX9_most_43 : decode cX9_most 43 = .ok (.bipush (-4), 2) := by decide +kernel
theorem dX9_most_45 : decode cX9_most 45 = .ok (.if_icmp .eq 37, 3) := by decide +kernel
theorem dX9_most_48 : decode cX9_most 48 = .ok (.aload_n 0, 1) := by decide +kernel
theorem dX9_most_49 : decode cX9_most 49 = .ok (.getfield 7, 3) := by decide +kernel
theorem dX9_most_52 : decode cX9_most 52 = .ok (.bipush 6, 2) := by decide +kernel
theorem dX9_most_54 : decode cX9_most 54 = .ok (.iaload, 1) := by decide +kernel
theorem dX9_most_55 : decode cX9_most 55 = .ok (.aload_n 0, 1) := by decide +kernel
theorem dX9_most_56 : decode cX9_most 56 = .ok (.getfield 16, 3) := by decide +kernel
theorem dX9_most_59 : decode cX9_most 59 = .ok (.bipush 10, 2) := by decide +kernel
theorem dX9_most_61 : decode cX9_most 61 = .ok (.iload_n 2, 1) := by decide +kernel
theorem dX9_most_62 : decode cX9_most 62 = .ok (.iadd, 1) := by decide +kernel
theorem dX9_most_63 : decode cX9_most 63 = .ok (.iaload, 1) := by decide +kernel
theorem dX9_most_64 : decode cX9_most 64 = .ok (.iload_n 3, 1) := by decide +kernel
theorem dX9_most_65 : decode cX9_most 65 = .ok (.iadd, 1) := by decide +kernel
theorem dX9_most_66 : decode cX9_most 66 = .ok (.imul, 1) := by decide +kernel
theorem dX9_most_67 : decode cX9_most 67 = .ok (.aload_n 0, 1) := by decide +kernel
theorem dX9_most_68 : decode cX9_most 68 = .ok (.getfield 16, 3) := by decide +kernel
theorem dX9_most_71 : decode cX9_most 71 = .ok (.iconst 5, 1) := by decide +kernel
theorem dX9_most_72 : decode cX9_most 72 = .ok (.iload_n 2, 1) := by decide +kernel
theorem dX9_most_73 : decode cX9_most 73 = .ok (.iadd, 1) := by decide +kernel
theorem dX9_most_74 : decode cX9_most 74 = .ok (.iaload, 1) := by decide +kernel
theorem dX9_most_75 : decode cX9_most 75 = .ok (.if_icmp .gt 7, 3) := by decide +kernel
theorem dX9_most_78 : decode cX9_most 78 = .ok (.iconst 1, 1) := by decide +kernel
theorem dX9_most_79 : decode cX9_most 79 = .ok (.goto 4, 3) := by decide +kernel
theorem dX9_most_82 : decode cX9_most 82 = .ok (.iconst 0, 1) := by decide +kernel
theorem dX9_most_83 : decode cX9_most 83 = .ok (.iadd, 1) := by decide +kernel
theorem dX9_most_84 : decode cX9_most 84 = .ok (.istore_n 1, 1) := by decide +kernel
theorem dX9_most_85 : decode cX9_most 85 = .ok (.iinc 2 1, 3) := by decide +kernel
theorem dX9_most_88 : decode cX9_most 88 = .ok (.goto (-84), 3) := by decide +kernel
theorem dX9_most_91 : decode cX9_most 91 = .ok (.iload_n 1, 1) := by decide +kernel
theorem dX9_most_92 : decode cX9_most 92 = .ok (.ireturn, 1) := by decide +kernel
theorem dX9_see_0 : decode cX9_see 0 = .ok (.aload_n 0, 1) := by decide +kernel
theorem dX9_see_1 : decode cX9_see 1 = .ok (.iload_n 1, 1) := by decide +kernel
theorem dX9_see_2 : decode cX9_see 2 = .ok (.invokevirtual 165, 3) := by decide +kernel
theorem dX9_see_5 : decode cX9_see 5 = .ok (.ifCond .eq 11, 3) := by decide +kernel
theorem dX9_see_8 : decode cX9_see 8 = .ok (.aload_n 0, 1) := by decide +kernel
theorem dX9_see_9 : decode cX9_see 9 = .ok (.iload_n 2, 1) := by decide +kernel
theorem dX9_see_10 : decode cX9_see 10 = .ok (.invokevirtual 155, 3) := by decide +kernel
theorem dX9_see_13 : decode cX9_see 13 = .ok (.ifCond .ne 5, 3) := by decide +kernel
theorem dX9_see_16 : decode cX9_see 16 = .ok (.iconst (-1), 1) := by decide +kernel
theorem dX9_see_17 : decode cX9_see 17 = .ok (.ireturn, 1) := by decide +kernel
theorem dX9_see_18 : decode cX9_see 18 = .ok (.aload_n 0, 1) := by decide +kernel
theorem dX9_see_19 : decode cX9_see 19 = .ok (.getfield 75, 3) := by decide +kernel
theorem dX9_see_22 : decode cX9_see 22 = .ok (.bipush 6, 2) := by decide +kernel
theorem dX9_see_24 : decode cX9_see 24 = .ok (.if_icmp .ne 6, 3) := by decide +kernel
theorem dX9_see_27 : decode cX9_see 27 = .ok (.bipush (-3), 2) := by decide +kernel
theorem dX9_see_29 : decode cX9_see 29 = .ok (.ireturn, 1) := by decide +kernel
theorem dX9_see_30 : decode cX9_see 30 = .ok (.aload_n 0, 1) := by decide +kernel
theorem dX9_see_31 : decode cX9_see 31 = .ok (.getfield 28, 3) := by decide +kernel
theorem dX9_see_34 : decode cX9_see 34 = .ok (.iconst 2, 1) := by decide +kernel
theorem dX9_see_35 : decode cX9_see 35 = .ok (.aload_n 0, 1) := by decide +kernel
theorem dX9_see_36 : decode cX9_see 36 = .ok (.getfield 75, 3) := by decide +kernel
theorem dX9_see_39 : decode cX9_see 39 = .ok (.imul, 1) := by decide +kernel
theorem dX9_see_40 : decode cX9_see 40 = .ok (.iload_n 1, 1) := by decide +kernel
theorem dX9_see_41 : decode cX9_see 41 = .ok (.iastore, 1) := by decide +kernel
theorem dX9_see_42 : decode cX9_see 42 = .ok (.aload_n 0, 1) := by decide +kernel
theorem dX9_see_43 : decode cX9_see 43 = .ok (.getfield 28, 3) := by decide +kernel
theorem dX9_see_46 : decode cX9_see 46 = .ok (.iconst 2, 1) := by decide +kernel
theorem dX9_see_47 : decode cX9_see 47 = .ok (.aload_n 0, 1) := by decide +kernel
theorem dX9_see_48 : decode cX9_see 48 = .ok (.getfield 75, 3) := by decide +kernel
theorem dX9_see_51 : decode cX9_see 51 = .ok (.imul, 1) := by decide +kernel
theorem dX9_see_52 : decode cX9_see 52 = .ok (.iconst 1, 1) := by decide +kernel
theorem dX9_see_53 : decode cX9_see 53 = .ok (.iadd, 1) := by decide +kernel
theorem dX9_see_54 : decode cX9_see 54 = .ok (.iload_n 2, 1) := by decide +kernel
theorem dX9_see_55 : decode cX9_see 55 = .ok (.iastore, 1) := by decide +kernel
theorem dX9_see_56 : decode cX9_see 56 = .ok (.aload_n 0, 1) := by decide +kernel
theorem dX9_see_57 : decode cX9_see 57 = .ok (.dup, 1) := by decide +kernel
theorem dX9_see_58 : decode cX9_see 58 = .ok (.getfield 75, 3) := by decide +kernel
theorem dX9_see_61 : decode cX9_see 61 = .ok (.iconst 1, 1) := by decide +kernel
theorem dX9_see_62 : decode cX9_see 62 = .ok (.iadd, 1) := by decide +kernel
theorem dX9_see_63 : decode cX9_see 63 = .ok (.putfield 75, 3) := by decide +kernel
theorem dX9_see_66 : decode cX9_see 66 = .ok (.aload_n 0, 1) := by decide +kernel
theorem dX9_see_67 : decode cX9_see 67 = .ok (.getfield 75, 3) := by decide +kernel
theorem dX9_see_70 : decode cX9_see 70 = .ok (.ireturn, 1) := by decide +kernel
theorem dX9_forget_0 : decode cX9_forget 0 = .ok (.aload_n 0, 1) := by decide +kernel
theorem dX9_forget_1 : decode cX9_forget 1 = .ok (.getfield 75, 3) := by decide +kernel
theorem dX9_forget_4 : decode cX9_forget 4 = .ok (.istore_n 1, 1) := by decide +kernel
theorem dX9_forget_5 : decode cX9_forget 5 = .ok (.aload_n 0, 1) := by decide +kernel
theorem dX9_forget_6 : decode cX9_forget 6 = .ok (.iconst 0, 1) := by decide +kernel
theorem dX9_forget_7 : decode cX9_forget 7 = .ok (.putfield 75, 3) := by decide +kernel
theorem dX9_forget_10 : decode cX9_forget 10 = .ok (.iload_n 1, 1) := by decide +kernel
theorem dX9_forget_11 : decode cX9_forget 11 = .ok (.ireturn, 1) := by decide +kernel
theorem dX9_areSo_0 : decode cX9_areSo 0 = .ok (.iconst 1, 1) := by decide +kernel
theorem dX9_areSo_1 : decode cX9_areSo 1 = .ok (.istore_n 3, 1) := by decide +kernel
theorem dX9_areSo_2 : decode cX9_areSo 2 = .ok (.iconst 0, 1) := by decide +kernel
theorem dX9_areSo_3 : decode cX9_areSo 3 = .ok (.istore 4, 2) := by decide +kernel
theorem dX9_areSo_5 : decode cX9_areSo 5 = .ok (.iload 4, 2) := by decide +kernel
theorem dX9_areSo_7 : decode cX9_areSo 7 = .ok (.iconst 2, 1) := by decide +kernel
theorem dX9_areSo_8 : decode cX9_areSo 8 = .ok (.aload_n 0, 1) := by decide +kernel
theorem dX9_areSo_9 : decode cX9_areSo 9 = .ok (.getfield 75, 3) := by decide +kernel
theorem dX9_areSo_12 : decode cX9_areSo 12 = .ok (.imul, 1) := by decide +kernel
theorem dX9_areSo_13 : decode cX9_areSo 13 = .ok (.if_icmp .ge 104, 3) := by decide +kernel
theorem dX9_areSo_16 : decode cX9_areSo 16 = .ok (.iload_n 3, 1) := by decide +kernel
theorem dX9_areSo_17 : decode cX9_areSo 17 = .ok (.ifCond .eq 100, 3) := by decide +kernel
theorem dX9_areSo_20 : decode cX9_areSo 20 = .ok (.aload_n 0, 1) := by decide +kernel
theorem dX9_areSo_21 : decode cX9_areSo 21 = .ok (.getfield 28, 3) := by decide +kernel
theorem dX9_areSo_24 : decode cX9_areSo 24 = .ok (.iload 4, 2) := by decide +kernel
theorem dX9_areSo_26 : decode cX9_areSo 26 = .ok (.iaload, 1) := by decide +kernel
theorem dX9_areSo_27 : decode cX9_areSo 27 = .ok (.istore 5, 2) := by decide +kernel
theorem dX9_areSo_29 : decode cX9_areSo 29 = .ok (.aload_n 0, 1) := by decide +kernel
theorem dX9_areSo_30 : decode cX9_areSo 30 = .ok (.aload_n 0, 1) := by decide +kernel
theorem dX9_areSo_31 : decode cX9_areSo 31 = .ok (.getfield 7, 3) := by decide +kernel
theorem dX9_areSo_34 : decode cX9_areSo 34 = .ok (.bipush 37, 2) := by decide +kernel
theorem dX9_areSo_36 : decode cX9_areSo 36 = .ok (.iload 5, 2) := by decide +kernel
theorem dX9_areSo_38 : decode cX9_areSo 38 = .ok (.iadd, 1) := by decide +kernel
theorem dX9_areSo_39 : decode cX9_areSo 39 = .ok (.iaload, 1) := by decide +kernel
theorem dX9_areSo_40 : decode cX9_areSo 40 = .ok (.aload_n 0, 1) := by decide +kernel
theorem dX9_areSo_41 : decode cX9_areSo 41 = .ok (.getfield 16, 3) := by decide +kernel
theorem dX9_areSo_44 : decode cX9_areSo 44 = .ok (.bipush 25, 2) := by decide +kernel
theorem dX9_areSo_46 : decode cX9_areSo 46 = .ok (.iconst 5, 1) := by decide +kernel
theorem dX9_areSo_47 : decode cX9_areSo 47 = .ok (.iload 5, 2) := by decide +kernel
theorem dX9_areSo_49 : decode cX9_areSo 49 = .ok (.imul, 1) := by decide +kernel
theorem dX9_areSo_50 : decode cX9_areSo 50 = .ok (.iadd, 1) := by decide +kernel
theorem dX9_areSo_51 : decode cX9_areSo 51 = .ok (.aload_n 0, 1) := by decide +kernel
theorem dX9_areSo_52 : decode cX9_areSo 52 = .ok (.getfield 16, 3) := by decide +kernel
theorem dX9_areSo_55 : decode cX9_areSo 55 = .ok (.bipush 10, 2) := by decide +kernel
theorem dX9_areSo_57 : decode cX9_areSo 57 = .ok (.iload 5, 2) := by decide +kernel
theorem dX9_areSo_59 : decode cX9_areSo 59 = .ok (.iadd, 1) := by decide +kernel
theorem dX9_areSo_60 : decode cX9_areSo 60 = .ok (.iaload, 1) := by decide +kernel
theorem dX9_areSo_61 : decode cX9_areSo 61 = .ok (.aload_n 0, 1) := by decide +kernel
theorem dX9_areSo_62 : decode cX9_areSo 62 = .ok (.getfield 16, 3) := by decide +kernel
theorem dX9_areSo_65 : decode cX9_areSo 65 = .ok (.bipush 15, 2) := by decide +kernel
theorem dX9_areSo_67 : decode cX9_areSo 67 = .ok (.iload 5, 2) := by decide +kernel
theorem dX9_areSo_69 : decode cX9_areSo 69 = .ok (.iadd, 1) := by decide +kernel
theorem dX9_areSo_70 : decode cX9_areSo 70 = .ok (.iaload, 1) := by decide +kernel
theorem dX9_areSo_71 : decode cX9_areSo 71 = .ok (.iload_n 1, 1) := by decide +kernel
theorem dX9_areSo_72 : decode cX9_areSo 72 = .ok (.iload_n 2, 1) := by decide +kernel
theorem dX9_areSo_73 : decode cX9_areSo 73 = .ok (.invokevirtual 179, 3) := by decide +kernel
theorem dX9_areSo_76 : decode cX9_areSo 76 = .ok (.aload_n 0, 1) := by decide +kernel
theorem dX9_areSo_77 : decode cX9_areSo 77 = .ok (.iload 5, 2) := by decide +kernel
theorem dX9_areSo_79 : decode cX9_areSo 79 = .ok (.invokevirtual 206, 3) := by decide +kernel
theorem dX9_areSo_82 : decode cX9_areSo 82 = .ok (.ifCond .eq 27, 3) := by decide +kernel
theorem dX9_areSo_85 : decode cX9_areSo 85 = .ok (.aload_n 0, 1) := by decide +kernel
theorem dX9_areSo_86 : decode cX9_areSo 86 = .ok (.aload_n 0, 1) := by decide +kernel
theorem dX9_areSo_87 : decode cX9_areSo 87 = .ok (.getfield 34, 3) := by decide +kernel
theorem dX9_areSo_90 : decode cX9_areSo 90 = .ok (.invokevirtual 187, 3) := by decide +kernel
theorem dX9_areSo_93 : decode cX9_areSo 93 = .ok (.aload_n 0, 1) := by decide +kernel
theorem dX9_areSo_94 : decode cX9_areSo 94 = .ok (.getfield 28, 3) := by decide +kernel
theorem dX9_areSo_97 : decode cX9_areSo 97 = .ok (.iload 4, 2) := by decide +kernel
theorem dX9_areSo_99 : decode cX9_areSo 99 = .ok (.iconst 1, 1) := by decide +kernel
theorem dX9_areSo_100 : decode cX9_areSo 100 = .ok (.iadd, 1) := by decide +kernel
theorem dX9_areSo_101 : decode cX9_areSo 101 = .ok (.iaload, 1) := by decide +kernel
theorem dX9_areSo_102 : decode cX9_areSo 102 = .ok (.if_icmp .ne 7, 3) := by decide +kernel
theorem dX9_areSo_105 : decode cX9_areSo 105 = .ok (.iconst 1, 1) := by decide +kernel
theorem dX9_areSo_106 : decode cX9_areSo 106 = .ok (.goto 4, 3) := by decide +kernel
theorem dX9_areSo_109 : decode cX9_areSo 109 = .ok (.iconst 0, 1) := by decide +kernel
theorem dX9_areSo_110 : decode cX9_areSo 110 = .ok (.istore_n 3, 1) := by decide +kernel
theorem dX9_areSo_111 : decode cX9_areSo 111 = .ok (.iinc 4 2, 3) := by decide +kernel
theorem dX9_areSo_114 : decode cX9_areSo 114 = .ok (.goto (-109), 3) := by decide +kernel
theorem dX9_areSo_117 : decode cX9_areSo 117 = .ok (.iload_n 3, 1) := by decide +kernel
theorem dX9_areSo_118 : decode cX9_areSo 118 = .ok (.ireturn, 1) := by decide +kernel
theorem dX9_habits_0 : decode cX9_habits 0 = .ok (.iload_n 1, 1) := by decide +kernel
theorem dX9_habits_1 : decode cX9_habits 1 = .ok (.i2l, 1) := by decide +kernel
theorem dX9_habits_2 : decode cX9_habits 2 = .ok (.lconst 0, 1) := by decide +kernel
theorem dX9_habits_3 : decode cX9_habits 3 = .ok (.lconst 1, 1) := by decide +kernel
theorem dX9_habits_4 : decode cX9_habits 4 = .ok (.invokestatic 82, 3) := by decide +kernel
theorem dX9_habits_7 : decode cX9_habits 7 = .ok (.ifCond .ne 5, 3) := by decide +kernel
theorem dX9_habits_10 : decode cX9_habits 10 = .ok (.iconst (-1), 1) := by decide +kernel
theorem dX9_habits_11 : decode cX9_habits 11 = .ok (.ireturn, 1) := by decide +kernel
theorem dX9_habits_12 : decode cX9_habits 12 = .ok (.iconst 0, 1) := by decide +kernel
theorem dX9_habits_13 : decode cX9_habits 13 = .ok (.istore_n 2, 1) := by decide +kernel
theorem dX9_habits_14 : decode cX9_habits 14 = .ok (.bipush (-4), 2) := by decide +kernel
theorem dX9_habits_16 : decode cX9_habits 16 = .ok (.istore_n 3, 1) := by decide +kernel
theorem dX9_habits_17 : decode cX9_habits 17 = .ok (.iconst 2, 1) := by decide +kernel
theorem dX9_habits_18 : decode cX9_habits 18 = .ok (.istore 4, 2) := by decide +kernel
theorem dX9_habits_20 : decode cX9_habits 20 = .ok (.iload 4, 2) := by decide +kernel
theorem dX9_habits_22 : decode cX9_habits 22 = .ok (.bipush 6, 2) := by decide +kernel
theorem dX9_habits_24 : decode cX9_habits 24 = .ok (.if_icmp .ge 57, 3) := by decide +kernel
theorem dX9_habits_27 : decode cX9_habits 27 = .ok (.iconst 1, 1) := by decide +kernel
theorem dX9_habits_28 : decode cX9_habits 28 = .ok (.istore 5, 2) := by decide +kernel
theorem dX9_habits_30 : decode cX9_habits 30 = .ok (.iload 5, 2) := by decide +kernel
theorem dX9_habits_32 : decode cX9_habits 32 = .ok (.iconst 5, 1) := by decide +kernel
theorem dX9_habits_33 : decode cX9_habits 33 = .ok (.if_icmp .ge 42, 3) := by decide +kernel
theorem dX9_habits_36 : decode cX9_habits 36 = .ok (.aload_n 0, 1) := by decide +kernel
theorem dX9_habits_37 : decode cX9_habits 37 = .ok (.iload 4, 2) := by decide +kernel
theorem dX9_habits_39 : decode cX9_habits 39 = .ok (.iload 5, 2) := by decide +kernel
theorem dX9_habits_41 : decode cX9_habits 41 = .ok (.invokevirtual 270, 3) := by decide +kernel
theorem dX9_habits_44 : decode cX9_habits 44 = .ok (.ifCond .eq 25, 3) := by decide +kernel
theorem dX9_habits_47 : decode cX9_habits 47 = .ok (.iinc 2 1, 3) := by decide +kernel
theorem dX9_habits_50 : decode cX9_habits 50 = .ok (.iload_n 3, 1) := by decide +kernel
theorem dX9_habits_51 : decode cX9_habits 51 = .ok (.bipush (-4), 2) := by decide +kernel
theorem dX9_habits_53 : decode cX9_habits 53 = .ok (.if_icmp .ne 14, 3) := by decide +kernel
theorem dX9_habits_56 : decode cX9_habits 56 = .ok (.bipush 10, 2) := by decide +kernel
theorem dX9_habits_58 : decode cX9_habits 58 = .ok (.iload 4, 2) := by decide +kernel
theorem dX9_habits_60 : decode cX9_habits 60 = .ok (.imul, 1) := by decide +kernel
theorem dX9_habits_61 : decode cX9_habits 61 = .ok (.iload 5, 2) := by decide +kernel
theorem dX9_habits_63 : decode cX9_habits 63 = .ok (.iadd, 1) := by decide +kernel
theorem dX9_habits_64 : decode cX9_habits 64 = .ok (.goto 4, 3) := by decide +kernel
theorem dX9_habits_67 : decode cX9_habits 67 = .ok (.iload_n 3, 1) := by decide +kernel
theorem dX9_habits_68 : decode cX9_habits 68 = .ok (.istore_n 3, 1) := by decide +kernel
theorem dX9_habits_69 : decode cX9_habits 69 = .ok (.iinc 5 1, 3) := by decide +kernel
theorem dX9_habits_72 : decode cX9_habits 72 = .ok (.goto (-42), 3) := by decide +kernel
theorem dX9_habits_75 : decode cX9_habits 75 = .ok (.iinc 4 1, 3) := by decide +kernel
theorem dX9_habits_78 : decode cX9_habits 78 = .ok (.goto (-58), 3) := by decide +kernel
theorem dX9_habits_81 : decode cX9_habits 81 = .ok (.iload_n 1, 1) := by decide +kernel
theorem dX9_habits_82 : decode cX9_habits 82 = .ok (.ifCond .ne 7, 3) := by decide +kernel
theorem dX9_habits_85 : decode cX9_habits 85 = .ok (.iload_n 2, 1) := by decide +kernel
theorem dX9_habits_86 : decode cX9_habits 86 = .ok (.goto 4, 3) := by decide +kernel
theorem dX9_habits_89 : decode cX9_habits 89 = .ok (.iload_n 3, 1) := by decide +kernel
theorem dX9_habits_90 : decode cX9_habits 90 = .ok (.ireturn, 1) := by decide +kernel
theorem dX9_wants_0 : decode cX9_wants 0 = .ok (.aload_n 0, 1) := by decide +kernel
theorem dX9_wants_1 : decode cX9_wants 1 = .ok (.iload_n 1, 1) := by decide +kernel
theorem dX9_wants_2 : decode cX9_wants 2 = .ok (.invokevirtual 165, 3) := by decide +kernel
theorem dX9_wants_5 : decode cX9_wants 5 = .ok (.ifCond .ne 5, 3) := by decide +kernel
theorem dX9_wants_8 : decode cX9_wants 8 = .ok (.iconst (-1), 1) := by decide +kernel
theorem dX9_wants_9 : decode cX9_wants 9 = .ok (.ireturn, 1) := by decide +kernel
theorem dX9_wants_10 : decode cX9_wants 10 = .ok (.aload_n 0, 1) := by decide +kernel
theorem dX9_wants_11 : decode cX9_wants 11 = .ok (.iload_n 1, 1) := by decide +kernel
theorem dX9_wants_12 : decode cX9_wants 12 = .ok (.invokevirtual 206, 3) := by decide +kernel
theorem dX9_wants_15 : decode cX9_wants 15 = .ok (.ifCond .ne 6, 3) := by decide +kernel
theorem dX9_wants_18 : decode cX9_wants 18 = .ok (.bipush (-2), 2) := by decide +kernel
theorem dX9_wants_20 : decode cX9_wants 20 = .ok (.ireturn, 1) := by decide +kernel
theorem dX9_wants_21 : decode cX9_wants 21 = .ok (.iconst 0, 1) := by decide +kernel
theorem dX9_wants_22 : decode cX9_wants 22 = .ok (.istore_n 2, 1) := by decide +kernel
theorem dX9_wants_23 : decode cX9_wants 23 = .ok (.iconst 0, 1) := by decide +kernel
theorem dX9_wants_24 : decode cX9_wants 24 = .ok (.istore_n 3, 1) := by decide +kernel
theorem dX9_wants_25 : decode cX9_wants 25 = .ok (.iload_n 3, 1) := by decide +kernel
theorem dX9_wants_26 : decode cX9_wants 26 = .ok (.aload_n 0, 1) := by decide +kernel
theorem dX9_wants_27 : decode cX9_wants 27 = .ok (.getfield 7, 3) := by decide +kernel
theorem dX9_wants_30 : decode cX9_wants 30 = .ok (.iconst 0, 1) := by decide +kernel
theorem dX9_wants_31 : decode cX9_wants 31 = .ok (.iaload, 1) := by decide +kernel
theorem dX9_wants_32 : decode cX9_wants 32 = .ok (.if_icmp .ge 30, 3) := by decide +kernel
theorem dX9_wants_35 : decode cX9_wants 35 = .ok (.iload_n 2, 1) := by decide +kernel
theorem dX9_wants_36 : decode cX9_wants 36 = .ok (.aload_n 0, 1) := by decide +kernel
theorem dX9_wants_37 : decode cX9_wants 37 = .ok (.iload_n 1, 1) := by decide +kernel
theorem dX9_wants_38 : decode cX9_wants 38 = .ok (.iload_n 3, 1) := by decide +kernel
theorem dX9_wants_39 : decode cX9_wants 39 = .ok (.invokevirtual 246, 3) := by decide +kernel
theorem dX9_wants_42 : decode cX9_wants 42 = .ok (.bipush (-4), 2) := by decide +kernel
theorem dX9_wants_44 : decode cX9_wants 44 = .ok (.if_icmp .ne 7, 3) := by decide +kernel
theorem dX9_wants_47 : decode cX9_wants 47 = .ok (.iconst 0, 1) := by decide +kernel
theorem dX9_wants_48 : decode cX9_wants 48 = .ok (.goto 6, 3) := by decide +kernel
theorem dX9_wants_51 : decode cX9_wants 51 = .ok (.iconst 1, 1) := by decide +kernel
theorem dX9_wants_52 : decode cX9_wants 52 = .ok (.iload_n 3, 1) := by decide +kernel
theorem dX9_wants_53 : decode cX9_wants 53 = .ok (.ishl, 1) := by decide +kernel
theorem dX9_wants_54 : decode cX9_wants 54 = .ok (.ior, 1) := by decide +kernel
theorem dX9_wants_55 : decode cX9_wants 55 = .ok (.istore_n 2, 1) := by decide +kernel
theorem dX9_wants_56 : decode cX9_wants 56 = .ok (.iinc 3 1, 3) := by decide +kernel
theorem dX9_wants_59 : decode cX9_wants 59 = .ok (.goto (-34), 3) := by decide +kernel
theorem dX9_wants_62 : decode cX9_wants 62 = .ok (.iload_n 2, 1) := by decide +kernel
theorem dX9_wants_63 : decode cX9_wants 63 = .ok (.ireturn, 1) := by decide +kernel
theorem dX9_missed_0 : decode cX9_missed 0 = .ok (.aload_n 0, 1) := by decide +kernel
theorem dX9_missed_1 : decode cX9_missed 1 = .ok (.iload_n 1, 1) := by decide +kernel
theorem dX9_missed_2 : decode cX9_missed 2 = .ok (.invokevirtual 165, 3) := by decide +kernel
theorem dX9_missed_5 : decode cX9_missed 5 = .ok (.ifCond .eq 25, 3) := by decide +kernel
theorem dX9_missed_8 : decode cX9_missed 8 = .ok (.iload_n 2, 1) := by decide +kernel
theorem dX9_missed_9 : decode cX9_missed 9 = .ok (.i2l, 1) := by decide +kernel
theorem dX9_missed_10 : decode cX9_missed 10 = .ok (.lconst 0, 1) := by decide +kernel
theorem dX9_missed_11 : decode cX9_missed 11 = .ok (.ldc2_w 273, 3) := by decide +kernel
theorem dX9_missed_14 : decode cX9_missed 14 = .ok (.invokestatic 82, 3) := by decide +kernel
theorem dX9_missed_17 : decode cX9_missed 17 = .ok (.ifCond .eq 13, 3) := by decide +kernel
theorem dX9_missed_20 : decode cX9_missed 20 = .ok (.iload_n 3, 1) := by decide +kernel
theorem dX9_missed_21 : decode cX9_missed 21 = .ok (.i2l, 1) := by decide +kernel
theorem dX9_missed_22 : decode cX9_missed 22 = .ok (.lconst 0, 1) := by decide +kernel
theorem dX9_missed_23 : decode cX9_missed 23 = .ok (.lconst 1, 1) := by decide +kernel
theorem dX9_missed_24 : decode cX9_missed 24 = .ok (.invokestatic 82, 3) := by decide +kernel
theorem dX9_missed_27 : decode cX9_missed 27 = .ok (.ifCond .ne 5, 3) := by decide +kernel
theorem dX9_missed_30 : decode cX9_missed 30 = .ok (.iconst (-1), 1) := by decide +kernel
theorem dX9_missed_31 : decode cX9_missed 31 = .ok (.ireturn, 1) := by decide +kernel
theorem dX9_missed_32 : decode cX9_missed 32 = .ok (.aload_n 0, 1) := by decide +kernel
theorem dX9_missed_33 : decode cX9_missed 33 = .ok (.iload_n 1, 1) := by decide +kernel
theorem dX9_missed_34 : decode cX9_missed 34 = .ok (.invokevirtual 206, 3) := by decide +kernel
theorem dX9_missed_37 : decode cX9_missed 37 = .ok (.ifCond .ne 6, 3) := by decide +kernel
theorem dX9_missed_40 : decode cX9_missed 40 = .ok (.bipush (-2), 2) := by decide +kernel
theorem dX9_missed_42 : decode cX9_missed 42 = .ok (.ireturn, 1) := by decide +kernel
theorem dX9_missed_43 : decode cX9_missed 43 = .ok (.aload_n 0, 1) := by decide +kernel
theorem dX9_missed_44 : decode cX9_missed 44 = .ok (.getfield 16, 3) := by decide +kernel
theorem dX9_missed_47 : decode cX9_missed 47 = .ok (.bipush 10, 2) := by decide +kernel
theorem dX9_missed_49 : decode cX9_missed 49 = .ok (.iload_n 1, 1) := by decide +kernel
theorem dX9_missed_50 : decode cX9_missed 50 = .ok (.iadd, 1) := by decide +kernel
theorem dX9_missed_51 : decode cX9_missed 51 = .ok (.iaload, 1) := by decide +kernel
theorem dX9_missed_52 : decode cX9_missed 52 = .ok (.istore 4, 2) := by decide +kernel
theorem dX9_missed_54 : decode cX9_missed 54 = .ok (.lconst 0, 1) := by decide +kernel
theorem dX9_missed_55 : decode cX9_missed 55 = .ok (.lstore 5, 2) := by decide +kernel
theorem dX9_missed_57 : decode cX9_missed 57 = .ok (.lconst 1, 1) := by decide +kernel
theorem dX9_missed_58 : decode cX9_missed 58 = .ok (.lstore 7, 2) := by decide +kernel
theorem dX9_missed_60 : decode cX9_missed 60 = .ok (.iconst 0, 1) := by decide +kernel
theorem dX9_missed_61 : decode cX9_missed 61 = .ok (.istore 9, 2) := by decide +kernel
theorem dX9_missed_63 : decode cX9_missed 63 = .ok (.iload 9, 2) := by decide +kernel
theorem dX9_missed_65 : decode cX9_missed 65 = .ok (.iload 4, 2) := by decide +kernel
theorem dX9_missed_67 : decode cX9_missed 67 = .ok (.if_icmp .ge 17, 3) := by decide +kernel
theorem dX9_missed_70 : decode cX9_missed 70 = .ok (.lload 7, 2) := by decide +kernel
theorem dX9_missed_72 : decode cX9_missed 72 = .ok (.ldc2_w 273, 3) := by decide +kernel
theorem dX9_missed_75 : decode cX9_missed 75 = .ok (.lmul, 1) := by decide +kernel
theorem dX9_missed_76 : decode cX9_missed 76 = .ok (.lstore 7, 2) := by decide +kernel
theorem dX9_missed_78 : decode cX9_missed 78 = .ok (.iinc 9 1, 3) := by decide +kernel
theorem dX9_missed_81 : decode cX9_missed 81 = .ok (.goto (-18), 3) := by decide +kernel
theorem dX9_missed_84 : decode cX9_missed 84 = .ok (.iconst 0, 1) := by decide +kernel
theorem dX9_missed_85 : decode cX9_missed 85 = .ok (.istore 9, 2) := by decide +kernel
theorem dX9_missed_87 : decode cX9_missed 87 = .ok (.iload 9, 2) := by decide +kernel
theorem dX9_missed_89 : decode cX9_missed 89 = .ok (.iconst 1, 1) := by decide +kernel
theorem dX9_missed_90 : decode cX9_missed 90 = .ok (.iload 4, 2) := by decide +kernel
theorem dX9_missed_92 : decode cX9_missed 92 = .ok (.ishl, 1) := by decide +kernel
theorem dX9_missed_93 : decode cX9_missed 93 = .ok (.if_icmp .ge 161, 3) := by decide +kernel
theorem dX9_missed_96 : decode cX9_missed 96 = .ok (.lconst 1, 1) := by decide +kernel
theorem dX9_missed_97 : decode cX9_missed 97 = .ok (.lstore 10, 2) := by decide +kernel
theorem dX9_missed_99 : decode cX9_missed 99 = .ok (.iconst 0, 1) := by decide +kernel
theorem dX9_missed_100 : decode cX9_missed 100 = .ok (.istore 12, 2) := by decide +kernel
theorem dX9_missed_102 : decode cX9_missed 102 = .ok (.iconst 0, 1) := by decide +kernel
theorem dX9_missed_103 : decode cX9_missed 103 = .ok (.istore 13, 2) := by decide +kernel
theorem dX9_missed_105 : decode cX9_missed 105 = .ok (.iload 13, 2) := by decide +kernel
theorem dX9_missed_107 : decode cX9_missed 107 = .ok (.iload 4, 2) := by decide +kernel
theorem dX9_missed_109 : decode cX9_missed 109 = .ok (.if_icmp .ge 68, 3) := by decide +kernel
theorem dX9_missed_112 : decode cX9_missed 112 = .ok (.lload 10, 2) := by decide +kernel
theorem dX9_missed_114 : decode cX9_missed 114 = .ok (.iload 9, 2) := by decide +kernel
theorem dX9_missed_116 : decode cX9_missed 116 = .ok (.iload 13, 2) := by decide +kernel
theorem dX9_missed_118 : decode cX9_missed 118 = .ok (.invokestatic 120, 3) := by decide +kernel
theorem dX9_missed_121 : decode cX9_missed 121 = .ok (.ifCond .eq 11, 3) := by decide +kernel
theorem dX9_missed_124 : decode cX9_missed 124 = .ok (.bipush 10, 2) := by decide +kernel
theorem dX9_missed_126 : decode cX9_missed 126 = .ok (.iload_n 2, 1) := by decide +kernel
theorem dX9_missed_127 : decode cX9_missed 127 = .ok (.isub, 1) := by decide +kernel
theorem dX9_missed_128 : decode cX9_missed 128 = .ok (.i2l, 1) := by decide +kernel
theorem dX9_missed_129 : decode cX9_missed 129 = .ok (.goto 5, 3) := by decide +kernel
theorem dX9_missed_132 : decode cX9_missed 132 = .ok (.iload_n 2, 1) := by decide +kernel
theorem dX9_missed_133 : decode cX9_missed 133 = .ok (.i2l, 1) := by decide +kernel
theorem dX9_missed_134 : decode cX9_missed 134 = .ok (.lmul, 1) := by decide +kernel
theorem dX9_missed_135 : decode cX9_missed 135 = .ok (.lstore 10, 2) := by decide +kernel
theorem dX9_missed_137 : decode cX9_missed 137 = .ok (.iload 9, 2) := by decide +kernel
theorem dX9_missed_139 : decode cX9_missed 139 = .ok (.iload 13, 2) := by decide +kernel
theorem dX9_missed_141 : decode cX9_missed 141 = .ok (.invokestatic 120, 3) := by decide +kernel
theorem dX9_missed_144 : decode cX9_missed 144 = .ok (.ifCond .eq 27, 3) := by decide +kernel
theorem dX9_missed_147 : decode cX9_missed 147 = .ok (.aload_n 0, 1) := by decide +kernel
theorem dX9_missed_148 : decode cX9_missed 148 = .ok (.getfield 55, 3) := by decide +kernel
theorem dX9_missed_151 : decode cX9_missed 151 = .ok (.iload 12, 2) := by decide +kernel
theorem dX9_missed_153 : decode cX9_missed 153 = .ok (.aload_n 0, 1) := by decide +kernel
theorem dX9_missed_154 : decode cX9_missed 154 = .ok (.getfield 16, 3) := by decide +kernel
theorem dX9_missed_157 : decode cX9_missed 157 = .ok (.bipush 25, 2) := by decide +kernel
theorem dX9_missed_159 : decode cX9_missed 159 = .ok (.iconst 5, 1) := by decide +kernel
theorem dX9_missed_160 : decode cX9_missed 160 = .ok (.iload_n 1, 1) := by decide +kernel
theorem dX9_missed_161 : decode cX9_missed 161 = .ok (.imul, 1) := by decide +kernel
theorem dX9_missed_162 : decode cX9_missed 162 = .ok (.iadd, 1) := by decide +kernel
theorem dX9_missed_163 : decode cX9_missed 163 = .ok (.iload 13, 2) := by decide +kernel
theorem dX9_missed_165 : decode cX9_missed 165 = .ok (.iadd, 1) := by decide +kernel
theorem dX9_missed_166 : decode cX9_missed 166 = .ok (.iaload, 1) := by decide +kernel
theorem dX9_missed_167 : decode cX9_missed 167 = .ok (.iastore, 1) := by decide +kernel
theorem dX9_missed_168 : decode cX9_missed 168 = .ok (.iinc 12 1, 3) := by decide +kernel
theorem dX9_missed_171 : decode cX9_missed 171 = .ok (.iinc 13 1, 3) := by decide +kernel
theorem dX9_missed_174 : decode cX9_missed 174 = .ok (.goto (-69), 3) := by decide +kernel
theorem dX9_missed_177 : decode cX9_missed 177 = .ok (.aload_n 0, 1) := by decide +kernel
theorem dX9_missed_178 : decode cX9_missed 178 = .ok (.aload_n 0, 1) := by decide +kernel
theorem dX9_missed_179 : decode cX9_missed 179 = .ok (.getfield 7, 3) := by decide +kernel
theorem dX9_missed_182 : decode cX9_missed 182 = .ok (.bipush 37, 2) := by decide +kernel
theorem dX9_missed_184 : decode cX9_missed 184 = .ok (.iload_n 1, 1) := by decide +kernel
theorem dX9_missed_185 : decode cX9_missed 185 = .ok (.iadd, 1) := by decide +kernel
theorem dX9_missed_186 : decode cX9_missed 186 = .ok (.iaload, 1) := by decide +kernel
theorem dX9_missed_187 : decode cX9_missed 187 = .ok (.aload_n 0, 1) := by decide +kernel
theorem dX9_missed_188 : decode cX9_missed 188 = .ok (.getfield 55, 3) := by decide +kernel
theorem dX9_missed_191 : decode cX9_missed 191 = .ok (.iconst 0, 1) := by decide +kernel
theorem dX9_missed_192 : decode cX9_missed 192 = .ok (.iload 12, 2) := by decide +kernel
theorem dX9_missed_194 : decode cX9_missed 194 = .ok (.aload_n 0, 1) := by decide +kernel
theorem dX9_missed_195 : decode cX9_missed 195 = .ok (.getfield 16, 3) := by decide +kernel
theorem dX9_missed_198 : decode cX9_missed 198 = .ok (.bipush 15, 2) := by decide +kernel
theorem dX9_missed_200 : decode cX9_missed 200 = .ok (.iload_n 1, 1) := by decide +kernel
theorem dX9_missed_201 : decode cX9_missed 201 = .ok (.iadd, 1) := by decide +kernel
theorem dX9_missed_202 : decode cX9_missed 202 = .ok (.iaload, 1) := by decide +kernel
theorem dX9_missed_203 : decode cX9_missed 203 = .ok (.aload_n 0, 1) := by decide +kernel
theorem dX9_missed_204 : decode cX9_missed 204 = .ok (.getfield 7, 3) := by decide +kernel
theorem dX9_missed_207 : decode cX9_missed 207 = .ok (.iconst 4, 1) := by decide +kernel
theorem dX9_missed_208 : decode cX9_missed 208 = .ok (.iaload, 1) := by decide +kernel
theorem dX9_missed_209 : decode cX9_missed 209 = .ok (.aload_n 0, 1) := by decide +kernel
theorem dX9_missed_210 : decode cX9_missed 210 = .ok (.getfield 7, 3) := by decide +kernel
theorem dX9_missed_213 : decode cX9_missed 213 = .ok (.iconst 5, 1) := by decide +kernel
theorem dX9_missed_214 : decode cX9_missed 214 = .ok (.iaload, 1) := by decide +kernel
theorem dX9_missed_215 : decode cX9_missed 215 = .ok (.invokevirtual 179, 3) := by decide +kernel
theorem dX9_missed_218 : decode cX9_missed 218 = .ok (.lload 5, 2) := by decide +kernel
theorem dX9_missed_220 : decode cX9_missed 220 = .ok (.aload_n 0, 1) := by decide +kernel
theorem dX9_missed_221 : decode cX9_missed 221 = .ok (.aload_n 0, 1) := by decide +kernel
theorem dX9_missed_222 : decode cX9_missed 222 = .ok (.getfield 34, 3) := by decide +kernel
theorem dX9_missed_225 : decode cX9_missed 225 = .ok (.invokevirtual 187, 3) := by decide +kernel
theorem dX9_missed_228 : decode cX9_missed 228 = .ok (.aload_n 0, 1) := by decide +kernel
theorem dX9_missed_229 : decode cX9_missed 229 = .ok (.getfield 16, 3) := by decide +kernel
theorem dX9_missed_232 : decode cX9_missed 232 = .ok (.iconst 0, 1) := by decide +kernel
theorem dX9_missed_233 : decode cX9_missed 233 = .ok (.iload_n 1, 1) := by decide +kernel
theorem dX9_missed_234 : decode cX9_missed 234 = .ok (.iadd, 1) := by decide +kernel
theorem dX9_missed_235 : decode cX9_missed 235 = .ok (.iaload, 1) := by decide +kernel
theorem dX9_missed_236 : decode cX9_missed 236 = .ok (.if_icmp .ne 8, 3) := by decide +kernel
theorem dX9_missed_239 : decode cX9_missed 239 = .ok (.lload 10, 2) := by decide +kernel
theorem dX9_missed_241 : decode cX9_missed 241 = .ok (.goto 4, 3) := by decide +kernel
theorem dX9_missed_244 : decode cX9_missed 244 = .ok (.lconst 0, 1) := by decide +kernel
theorem dX9_missed_245 : decode cX9_missed 245 = .ok (.ladd, 1) := by decide +kernel
theorem dX9_missed_246 : decode cX9_missed 246 = .ok (.lstore 5, 2) := by decide +kernel
theorem dX9_missed_248 : decode cX9_missed 248 = .ok (.iinc 9 1, 3) := by decide +kernel
theorem dX9_missed_251 : decode cX9_missed 251 = .ok (.goto (-164), 3) := by decide +kernel
theorem dX9_missed_254 : decode cX9_missed 254 = .ok (.aload_n 0, 1) := by decide +kernel
theorem dX9_missed_255 : decode cX9_missed 255 = .ok (.lload 5, 2) := by decide +kernel
theorem dX9_missed_257 : decode cX9_missed 257 = .ok (.lload 7, 2) := by decide +kernel
theorem dX9_missed_259 : decode cX9_missed 259 = .ok (.invokevirtual 202, 3) := by decide +kernel
theorem dX9_missed_262 : decode cX9_missed 262 = .ok (.iload_n 3, 1) := by decide +kernel
theorem dX9_missed_263 : decode cX9_missed 263 = .ok (.ifCond .ne 10, 3) := by decide +kernel
theorem dX9_missed_266 : decode cX9_missed 266 = .ok (.aload_n 0, 1) := by decide +kernel
theorem dX9_missed_267 : decode cX9_missed 267 = .ok (.getfield 191, 3) := by decide +kernel
theorem dX9_missed_270 : decode cX9_missed 270 = .ok (.goto 7, 3) := by decide +kernel
theorem dX9_missed_273 : decode cX9_missed 273 = .ok (.aload_n 0, 1) := by decide +kernel
theorem dX9_missed_274 : decode cX9_missed 274 = .ok (.getfield 195, 3) := by decide +kernel
theorem dX9_missed_277 : decode cX9_missed 277 = .ok (.l2i, 1) := by decide +kernel
theorem dX9_missed_278 : decode cX9_missed 278 = .ok (.ireturn, 1) := by decide +kernel
theorem dX9_throughOf_0 : decode cX9_throughOf 0 = .ok (.iconst 0, 1) := by decide +kernel
theorem dX9_throughOf_1 : decode cX9_throughOf 1 = .ok (.istore_n 3, 1) := by decide +kernel
theorem dX9_throughOf_2 : decode cX9_throughOf 2 = .ok (.iconst 0, 1) := by decide +kernel
theorem dX9_throughOf_3 : decode cX9_throughOf 3 = .ok (.istore 4, 2) := by decide +kernel
theorem dX9_throughOf_5 : decode cX9_throughOf 5 = .ok (.iload 4, 2) := by decide +kernel
theorem dX9_throughOf_7 : decode cX9_throughOf 7 = .ok (.iload_n 2, 1) := by decide +kernel
theorem dX9_throughOf_8 : decode cX9_throughOf 8 = .ok (.if_icmp .ge 28, 3) := by decide +kernel
theorem dX9_throughOf_11 : decode cX9_throughOf 11 = .ok (.iload_n 3, 1) := by decide +kernel
theorem dX9_throughOf_12 : decode cX9_throughOf 12 = .ok (.aload_n 0, 1) := by decide +kernel
theorem dX9_throughOf_13 : decode cX9_throughOf 13 = .ok (.bipush 20, 2) := by decide +kernel
theorem dX9_throughOf_15 : decode cX9_throughOf 15 = .ok (.iload 4, 2) := by decide +kernel
theorem dX9_throughOf_17 : decode cX9_throughOf 17 = .ok (.iadd, 1) := by decide +kernel
theorem dX9_throughOf_18 : decode cX9_throughOf 18 = .ok (.iaload, 1) := by decide +kernel
theorem dX9_throughOf_19 : decode cX9_throughOf 19 = .ok (.iload_n 1, 1) := by decide +kernel
theorem dX9_throughOf_20 : decode cX9_throughOf 20 = .ok (.if_icmp .ne 7, 3) := by decide +kernel
theorem dX9_throughOf_23 : decode cX9_throughOf 23 = .ok (.iconst 1, 1) := by decide +kernel
theorem dX9_throughOf_24 : decode cX9_throughOf 24 = .ok (.goto 4, 3) := by decide +kernel
theorem dX9_throughOf_27 : decode cX9_throughOf 27 = .ok (.iconst 0, 1) := by decide +kernel
theorem dX9_throughOf_28 : decode cX9_throughOf 28 = .ok (.iadd, 1) := by decide +kernel
theorem dX9_throughOf_29 : decode cX9_throughOf 29 = .ok (.istore_n 3, 1) := by decide +kernel
theorem dX9_throughOf_30 : decode cX9_throughOf 30 = .ok (.iinc 4 1, 3) := by decide +kernel
theorem dX9_throughOf_33 : decode cX9_throughOf 33 = .ok (.goto (-28), 3) := by decide +kernel
theorem dX9_throughOf_36 : decode cX9_throughOf 36 = .ok (.iload_n 3, 1) := by decide +kernel
theorem dX9_throughOf_37 : decode cX9_throughOf 37 = .ok (.ireturn, 1) := by decide +kernel
theorem dX9_season_0 : decode cX9_season 0 = .ok (.iload_n 1, 1) := by decide +kernel
theorem dX9_season_1 : decode cX9_season 1 = .ok (.i2l, 1) := by decide +kernel
theorem dX9_season_2 : decode cX9_season 2 = .ok (.lconst 0, 1) := by decide +kernel
theorem dX9_season_3 : decode cX9_season 3 = .ok (.ldc2_w 275, 3) := by decide +kernel
theorem dX9_season_6 : decode cX9_season 6 = .ok (.invokestatic 82, 3) := by decide +kernel
theorem dX9_season_9 : decode cX9_season 9 = .ok (.ifCond .eq 25, 3) := by decide +kernel
theorem dX9_season_12 : decode cX9_season 12 = .ok (.iload_n 2, 1) := by decide +kernel
theorem dX9_season_13 : decode cX9_season 13 = .ok (.i2l, 1) := by decide +kernel
theorem dX9_season_14 : decode cX9_season 14 = .ok (.lconst 1, 1) := by decide +kernel
theorem dX9_season_15 : decode cX9_season 15 = .ok (.ldc2_w 277, 3) := by decide +kernel
theorem dX9_season_18 : decode cX9_season 18 = .ok (.invokestatic 82, 3) := by decide +kernel
theorem dX9_season_21 : decode cX9_season 21 = .ok (.ifCond .eq 13, 3) := by decide +kernel
theorem dX9_season_24 : decode cX9_season 24 = .ok (.iload_n 3, 1) := by decide +kernel
theorem dX9_season_25 : decode cX9_season 25 = .ok (.i2l, 1) := by decide +kernel
theorem dX9_season_26 : decode cX9_season 26 = .ok (.lconst 0, 1) := by decide +kernel
theorem dX9_season_27 : decode cX9_season 27 = .ok (.lconst 1, 1) := by decide +kernel
theorem dX9_season_28 : decode cX9_season 28 = .ok (.invokestatic 82, 3) := by decide +kernel
theorem dX9_season_31 : decode cX9_season 31 = .ok (.ifCond .ne 5, 3) := by decide +kernel
theorem dX9_season_34 : decode cX9_season 34 = .ok (.iconst (-1), 1) := by decide +kernel
theorem dX9_season_35 : decode cX9_season 35 = .ok (.ireturn, 1) := by decide +kernel
theorem dX9_season_36 : decode cX9_season 36 = .ok (.aload_n 0, 1) := by decide +kernel
theorem dX9_season_37 : decode cX9_season 37 = .ok (.getfield 16, 3) := by decide +kernel
theorem dX9_season_40 : decode cX9_season 40 = .ok (.iconst 0, 1) := by decide +kernel
theorem dX9_season_41 : decode cX9_season 41 = .ok (.aload_n 0, 1) := by decide +kernel
theorem dX9_season_42 : decode cX9_season 42 = .ok (.getfield 19, 3) := by decide +kernel
theorem dX9_season_45 : decode cX9_season 45 = .ok (.iconst 0, 1) := by decide +kernel
theorem dX9_season_46 : decode cX9_season 46 = .ok (.bipush 50, 2) := by decide +kernel
theorem dX9_season_48 : decode cX9_season 48 = .ok (.invokestatic 148, 3) := by decide +kernel
theorem dX9_season_51 : decode cX9_season 51 = .ok (.iconst 0, 1) := by decide +kernel
theorem dX9_season_52 : decode cX9_season 52 = .ok (.istore 4, 2) := by decide +kernel
theorem dX9_season_54 : decode cX9_season 54 = .ok (.iconst 0, 1) := by decide +kernel
theorem dX9_season_55 : decode cX9_season 55 = .ok (.istore 5, 2) := by decide +kernel
theorem dX9_season_57 : decode cX9_season 57 = .ok (.iload 5, 2) := by decide +kernel
theorem dX9_season_59 : decode cX9_season 59 = .ok (.iload_n 2, 1) := by decide +kernel
theorem dX9_season_60 : decode cX9_season 60 = .ok (.if_icmp .ge 136, 3) := by decide +kernel
theorem dX9_season_63 : decode cX9_season 63 = .ok (.ldc2_w 279, 3) := by decide +kernel
theorem dX9_season_66 : decode cX9_season 66 = .ok (.iload_n 1, 1) := by decide +kernel
theorem dX9_season_67 : decode cX9_season 67 = .ok (.i2l, 1) := by decide +kernel
theorem dX9_season_68 : decode cX9_season 68 = .ok (.lmul, 1) := by decide +kernel
theorem dX9_season_69 : decode cX9_season 69 = .ok (.ldc2_w 281, 3) := by decide +kernel
theorem dX9_season_72 : decode cX9_season 72 = .ok (.iload 5, 2) := by decide +kernel
theorem dX9_season_74 : decode cX9_season 74 = .ok (.i2l, 1) := by decide +kernel
theorem dX9_season_75 : decode cX9_season 75 = .ok (.lmul, 1) := by decide +kernel
theorem dX9_season_76 : decode cX9_season 76 = .ok (.ladd, 1) := by decide +kernel
theorem dX9_season_77 : decode cX9_season 77 = .ok (.lconst 1, 1) := by decide +kernel
theorem dX9_season_78 : decode cX9_season 78 = .ok (.ladd, 1) := by decide +kernel
theorem dX9_season_79 : decode cX9_season 79 = .ok (.lstore 6, 2) := by decide +kernel
theorem dX9_season_81 : decode cX9_season 81 = .ok (.lload 6, 2) := by decide +kernel
theorem dX9_season_83 : decode cX9_season 83 = .ok (.lload 6, 2) := by decide +kernel
theorem dX9_season_85 : decode cX9_season 85 = .ok (.lmul, 1) := by decide +kernel
theorem dX9_season_86 : decode cX9_season 86 = .ok (.ldc2_w 283, 3) := by decide +kernel
theorem dX9_season_89 : decode cX9_season 89 = .ok (.lrem, 1) := by decide +kernel
theorem dX9_season_90 : decode cX9_season 90 = .ok (.ldc2_w 285, 3) := by decide +kernel
theorem dX9_season_93 : decode cX9_season 93 = .ok (.ldiv, 1) := by decide +kernel
theorem dX9_season_94 : decode cX9_season 94 = .ok (.l2i, 1) := by decide +kernel
theorem dX9_season_95 : decode cX9_season 95 = .ok (.istore 8, 2) := by decide +kernel
theorem dX9_season_97 : decode cX9_season 97 = .ok (.iload 8, 2) := by decide +kernel
theorem dX9_season_99 : decode cX9_season 99 = .ok (.aload_n 0, 1) := by decide +kernel
theorem dX9_season_100 : decode cX9_season 100 = .ok (.getfield 7, 3) := by decide +kernel
theorem dX9_season_103 : decode cX9_season 103 = .ok (.iconst 2, 1) := by decide +kernel
theorem dX9_season_104 : decode cX9_season 104 = .ok (.iaload, 1) := by decide +kernel
theorem dX9_season_105 : decode cX9_season 105 = .ok (.irem, 1) := by decide +kernel
theorem dX9_season_106 : decode cX9_season 106 = .ok (.istore 9, 2) := by decide +kernel
theorem dX9_season_108 : decode cX9_season 108 = .ok (.iload 8, 2) := by decide +kernel
theorem dX9_season_110 : decode cX9_season 110 = .ok (.sipush 256, 3) := by decide +kernel
theorem dX9_season_113 : decode cX9_season 113 = .ok (.idiv, 1) := by decide +kernel
theorem dX9_season_114 : decode cX9_season 114 = .ok (.iconst 3, 1) := by decide +kernel
theorem dX9_season_115 : decode cX9_season 115 = .ok (.irem, 1) := by decide +kernel
theorem dX9_season_116 : decode cX9_season 116 = .ok (.ifCond .ne 40, 3) := by decide +kernel
theorem dX9_season_119 : decode cX9_season 119 = .ok (.aload_n 0, 1) := by decide +kernel
theorem dX9_season_120 : decode cX9_season 120 = .ok (.getfield 19, 3) := by decide +kernel
theorem dX9_season_123 : decode cX9_season 123 = .ok (.bipush 20, 2) := by decide +kernel
theorem dX9_season_125 : decode cX9_season 125 = .ok (.iload 9, 2) := by decide +kernel
theorem dX9_season_127 : decode cX9_season 127 = .ok (.iadd, 1) := by decide +kernel
theorem dX9_season_128 : decode cX9_season 128 = .ok (.iaload, 1) := by decide +kernel
theorem dX9_season_129 : decode cX9_season 129 = .ok (.ifCond .ne 61, 3) := by decide +kernel
theorem dX9_season_132 : decode cX9_season 132 = .ok (.aload_n 0, 1) := by decide +kernel
theorem dX9_season_133 : decode cX9_season 133 = .ok (.aload_n 0, 1) := by decide +kernel
theorem dX9_season_134 : decode cX9_season 134 = .ok (.getfield 19, 3) := by decide +kernel
theorem dX9_season_137 : decode cX9_season 137 = .ok (.iload 9, 2) := by decide +kernel
theorem dX9_season_139 : decode cX9_season 139 = .ok (.invokevirtual 230, 3) := by decide +kernel
theorem dX9_season_142 : decode cX9_season 142 = .ok (.istore 10, 2) := by decide +kernel
theorem dX9_season_144 : decode cX9_season 144 = .ok (.iload 4, 2) := by decide +kernel
theorem dX9_season_146 : decode cX9_season 146 = .ok (.aload_n 0, 1) := by decide +kernel
theorem dX9_season_147 : decode cX9_season 147 = .ok (.getfield 224, 3) := by decide +kernel
theorem dX9_season_150 : decode cX9_season 150 = .ok (.iadd, 1) := by decide +kernel
theorem dX9_season_151 : decode cX9_season 151 = .ok (.istore 4, 2) := by decide +kernel
theorem dX9_season_153 : decode cX9_season 153 = .ok (.goto 37, 3) := by decide +kernel
theorem dX9_season_156 : decode cX9_season 156 = .ok (.aload_n 0, 1) := by decide +kernel
theorem dX9_season_157 : decode cX9_season 157 = .ok (.getfield 19, 3) := by decide +kernel
theorem dX9_season_160 : decode cX9_season 160 = .ok (.iload 9, 2) := by decide +kernel
theorem dX9_season_162 : decode cX9_season 162 = .ok (.invokestatic 213, 3) := by decide +kernel
theorem dX9_season_165 : decode cX9_season 165 = .ok (.ifCond .eq 25, 3) := by decide +kernel
theorem dX9_season_168 : decode cX9_season 168 = .ok (.aload_n 0, 1) := by decide +kernel
theorem dX9_season_169 : decode cX9_season 169 = .ok (.aload_n 0, 1) := by decide +kernel
theorem dX9_season_170 : decode cX9_season 170 = .ok (.getfield 19, 3) := by decide +kernel
theorem dX9_season_173 : decode cX9_season 173 = .ok (.iload 9, 2) := by decide +kernel
theorem dX9_season_175 : decode cX9_season 175 = .ok (.iload 8, 2) := by decide +kernel
theorem dX9_season_177 : decode cX9_season 177 = .ok (.bipush 8, 2) := by decide +kernel
theorem dX9_season_179 : decode cX9_season 179 = .ok (.idiv, 1) := by decide +kernel
theorem dX9_season_180 : decode cX9_season 180 = .ok (.aload_n 0, 1) := by decide +kernel
theorem dX9_season_181 : decode cX9_season 181 = .ok (.invokevirtual 152, 3) := by decide +kernel
theorem dX9_season_184 : decode cX9_season 184 = .ok (.irem, 1) := by decide +kernel
theorem dX9_season_185 : decode cX9_season 185 = .ok (.invokevirtual 220, 3) := by decide +kernel
theorem dX9_season_188 : decode cX9_season 188 = .ok (.istore 10, 2) := by decide +kernel
theorem dX9_season_190 : decode cX9_season 190 = .ok (.iinc 5 1, 3) := by decide +kernel
theorem dX9_season_193 : decode cX9_season 193 = .ok (.goto (-136), 3) := by decide +kernel
theorem dX9_season_196 : decode cX9_season 196 = .ok (.iload_n 3, 1) := by decide +kernel
theorem dX9_season_197 : decode cX9_season 197 = .ok (.ifCond .ne 20, 3) := by decide +kernel
theorem dX9_season_200 : decode cX9_season 200 = .ok (.aload_n 0, 1) := by decide +kernel
theorem dX9_season_201 : decode cX9_season 201 = .ok (.getfield 19, 3) := by decide +kernel
theorem dX9_season_204 : decode cX9_season 204 = .ok (.iconst 1, 1) := by decide +kernel
theorem dX9_season_205 : decode cX9_season 205 = .ok (.aload_n 0, 1) := by decide +kernel
theorem dX9_season_206 : decode cX9_season 206 = .ok (.getfield 7, 3) := by decide +kernel
theorem dX9_season_209 : decode cX9_season 209 = .ok (.iconst 2, 1) := by decide +kernel
theorem dX9_season_210 : decode cX9_season 210 = .ok (.iaload, 1) := by decide +kernel
theorem dX9_season_211 : decode cX9_season 211 = .ok (.invokestatic 287, 3) := by decide +kernel
theorem dX9_season_214 : decode cX9_season 214 = .ok (.goto 5, 3) := by decide +kernel
theorem dX9_season_217 : decode cX9_season 217 = .ok (.iload 4, 2) := by decide +kernel
theorem dX9_season_219 : decode cX9_season 219 = .ok (.ireturn, 1) := by decide +kernel
theorem dX9_keep_0 : decode cX9_keep 0 = .ok (.aload_n 0, 1) := by decide +kernel
theorem dX9_keep_1 : decode cX9_keep 1 = .ok (.getfield 72, 3) := by decide +kernel
theorem dX9_keep_4 : decode cX9_keep 4 = .ok (.iconst 2, 1) := by decide +kernel
theorem dX9_keep_5 : decode cX9_keep 5 = .ok (.if_icmp .ne 6, 3) := by decide +kernel
theorem dX9_keep_8 : decode cX9_keep 8 = .ok (.bipush (-3), 2) := by decide +kernel
theorem dX9_keep_10 : decode cX9_keep 10 = .ok (.ireturn, 1) := by decide +kernel
theorem dX9_keep_11 : decode cX9_keep 11 = .ok (.aload_n 0, 1) := by decide +kernel
theorem dX9_keep_12 : decode cX9_keep 12 = .ok (.getfield 16, 3) := by decide +kernel
theorem dX9_keep_15 : decode cX9_keep 15 = .ok (.iconst 0, 1) := by decide +kernel
theorem dX9_keep_16 : decode cX9_keep 16 = .ok (.aload_n 0, 1) := by decide +kernel
theorem dX9_keep_17 : decode cX9_keep 17 = .ok (.getfield 25, 3) := by decide +kernel
theorem dX9_keep_20 : decode cX9_keep 20 = .ok (.bipush 50, 2) := by decide +kernel
theorem dX9_keep_22 : decode cX9_keep 22 = .ok (.aload_n 0, 1) := by decide +kernel
theorem dX9_keep_23 : decode cX9_keep 23 = .ok (.getfield 72, 3) := by decide +kernel
theorem dX9_keep_26 : decode cX9_keep 26 = .ok (.imul, 1) := by decide +kernel
theorem dX9_keep_27 : decode cX9_keep 27 = .ok (.bipush 50, 2) := by decide +kernel
theorem dX9_keep_29 : decode cX9_keep 29 = .ok (.invokestatic 148, 3) := by decide +kernel
theorem dX9_keep_32 : decode cX9_keep 32 = .ok (.aload_n 0, 1) := by decide +kernel
theorem dX9_keep_33 : decode cX9_keep 33 = .ok (.dup, 1) := by decide +kernel
theorem dX9_keep_34 : decode cX9_keep 34 = .ok (.getfield 72, 3) := by decide +kernel
theorem dX9_keep_37 : decode cX9_keep 37 = .ok (.iconst 1, 1) := by decide +kernel
theorem dX9_keep_38 : decode cX9_keep 38 = .ok (.iadd, 1) := by decide +kernel
theorem dX9_keep_39 : decode cX9_keep 39 = .ok (.putfield 72, 3) := by decide +kernel
theorem dX9_keep_42 : decode cX9_keep 42 = .ok (.aload_n 0, 1) := by decide +kernel
theorem dX9_keep_43 : decode cX9_keep 43 = .ok (.getfield 72, 3) := by decide +kernel
theorem dX9_keep_46 : decode cX9_keep 46 = .ok (.ireturn, 1) := by decide +kernel
theorem dX9_back_0 : decode cX9_back 0 = .ok (.aload_n 0, 1) := by decide +kernel
theorem dX9_back_1 : decode cX9_back 1 = .ok (.getfield 72, 3) := by decide +kernel
theorem dX9_back_4 : decode cX9_back 4 = .ok (.ifCond .ne 6, 3) := by decide +kernel
theorem dX9_back_7 : decode cX9_back 7 = .ok (.bipush (-2), 2) := by decide +kernel
theorem dX9_back_9 : decode cX9_back 9 = .ok (.ireturn, 1) := by decide +kernel
theorem dX9_back_10 : decode cX9_back 10 = .ok (.aload_n 0, 1) := by decide +kernel
theorem dX9_back_11 : decode cX9_back 11 = .ok (.dup, 1) := by decide +kernel
theorem dX9_back_12 : decode cX9_back 12 = .ok (.getfield 72, 3) := by decide +kernel
theorem dX9_back_15 : decode cX9_back 15 = .ok (.iconst 1, 1) := by decide +kernel
theorem dX9_back_16 : decode cX9_back 16 = .ok (.isub, 1) := by decide +kernel
theorem dX9_back_17 : decode cX9_back 17 = .ok (.putfield 72, 3) := by decide +kernel
theorem dX9_back_20 : decode cX9_back 20 = .ok (.aload_n 0, 1) := by decide +kernel
theorem dX9_back_21 : decode cX9_back 21 = .ok (.getfield 25, 3) := by decide +kernel
theorem dX9_back_24 : decode cX9_back 24 = .ok (.bipush 50, 2) := by decide +kernel
theorem dX9_back_26 : decode cX9_back 26 = .ok (.aload_n 0, 1) := by decide +kernel
theorem dX9_back_27 : decode cX9_back 27 = .ok (.getfield 72, 3) := by decide +kernel
theorem dX9_back_30 : decode cX9_back 30 = .ok (.imul, 1) := by decide +kernel
theorem dX9_back_31 : decode cX9_back 31 = .ok (.aload_n 0, 1) := by decide +kernel
theorem dX9_back_32 : decode cX9_back 32 = .ok (.getfield 16, 3) := by decide +kernel
theorem dX9_back_35 : decode cX9_back 35 = .ok (.iconst 0, 1) := by decide +kernel
theorem dX9_back_36 : decode cX9_back 36 = .ok (.bipush 50, 2) := by decide +kernel
theorem dX9_back_38 : decode cX9_back 38 = .ok (.invokestatic 148, 3) := by decide +kernel
theorem dX9_back_41 : decode cX9_back 41 = .ok (.aload_n 0, 1) := by decide +kernel
theorem dX9_back_42 : decode cX9_back 42 = .ok (.iconst 0, 1) := by decide +kernel
theorem dX9_back_43 : decode cX9_back 43 = .ok (.putfield 68, 3) := by decide +kernel
theorem dX9_back_46 : decode cX9_back 46 = .ok (.aload_n 0, 1) := by decide +kernel
theorem dX9_back_47 : decode cX9_back 47 = .ok (.getfield 72, 3) := by decide +kernel
theorem dX9_back_50 : decode cX9_back 50 = .ok (.ireturn, 1) := by decide +kernel
theorem dX9_shownInAll_0 : decode cX9_shownInAll 0 = .ok (.iconst 0, 1) := by decide +kernel
theorem dX9_shownInAll_1 : decode cX9_shownInAll 1 = .ok (.istore_n 1, 1) := by decide +kernel
theorem dX9_shownInAll_2 : decode cX9_shownInAll 2 = .ok (.iconst 0, 1) := by decide +kernel
theorem dX9_shownInAll_3 : decode cX9_shownInAll 3 = .ok (.istore_n 2, 1) := by decide +kernel
theorem dX9_shownInAll_4 : decode cX9_shownInAll 4 = .ok (.iload_n 2, 1) := by decide +kernel
theorem dX9_shownInAll_5 : decode cX9_shownInAll 5 = .ok (.iconst 5, 1) := by decide +kernel
theorem dX9_shownInAll_6 : decode cX9_shownInAll 6 = .ok (.if_icmp .ge 21, 3) := by decide +kernel
theorem dX9_shownInAll_9 : decode cX9_shownInAll 9 = .ok (.iload_n 1, 1) := by decide +kernel
theorem dX9_shownInAll_10 : decode cX9_shownInAll 10 = .ok (.aload_n 0, 1) := by decide +kernel
theorem dX9_shownInAll_11 : decode cX9_shownInAll 11 = .ok (.getfield 16, 3) := by decide +kernel
theorem dX9_shownInAll_14 : decode cX9_shownInAll 14 = .ok (.bipush 10, 2) := by decide +kernel
theorem dX9_shownInAll_16 : decode cX9_shownInAll 16 = .ok (.iload_n 2, 1) := by decide +kernel
theorem dX9_shownInAll_17 : decode cX9_shownInAll 17 = .ok (.iadd, 1) := by decide +kernel
theorem dX9_shownInAll_18 : decode cX9_shownInAll 18 = .ok (.iaload, 1) := by decide +kernel
theorem dX9_shownInAll_19 : decode cX9_shownInAll 19 = .ok (.iadd, 1) := by decide +kernel
theorem dX9_shownInAll_20 : decode cX9_shownInAll 20 = .ok (.istore_n 1, 1) := by decide +kernel
theorem dX9_shownInAll_21 : decode cX9_shownInAll 21 = .ok (.iinc 2 1, 3) := by decide +kernel
theorem dX9_shownInAll_24 : decode cX9_shownInAll 24 = .ok (.goto (-20), 3) := by decide +kernel
theorem dX9_shownInAll_27 : decode cX9_shownInAll 27 = .ok (.iload_n 1, 1) := by decide +kernel
theorem dX9_shownInAll_28 : decode cX9_shownInAll 28 = .ok (.ireturn, 1) := by decide +kernel
theorem dX9_count_0 : decode cX9_count 0 = .ok (.iload_n 1, 1) := by decide +kernel
theorem dX9_count_1 : decode cX9_count 1 = .ok (.tableswitch 136 0 12 #[67, 74, 79, 86, 94, 94, 94, 94, 111, 116, 121, 126, 131], 67) := by decide +kernel
theorem dX9_count_68 : decode cX9_count 68 = .ok (.aload_n 0, 1) := by decide +kernel
theorem dX9_count_69 : decode cX9_count 69 = .ok (.getfield 7, 3) := by decide +kernel
theorem dX9_count_72 : decode cX9_count 72 = .ok (.iconst 0, 1) := by decide +kernel
theorem dX9_count_73 : decode cX9_count 73 = .ok (.iaload, 1) := by decide +kernel
theorem dX9_count_74 : decode cX9_count 74 = .ok (.ireturn, 1) := by decide +kernel
theorem dX9_count_75 : decode cX9_count 75 = .ok (.aload_n 0, 1) := by decide +kernel
theorem dX9_count_76 : decode cX9_count 76 = .ok (.invokevirtual 152, 3) := by decide +kernel
theorem dX9_count_79 : decode cX9_count 79 = .ok (.ireturn, 1) := by decide +kernel
theorem dX9_count_80 : decode cX9_count 80 = .ok (.aload_n 0, 1) := by decide +kernel
theorem dX9_count_81 : decode cX9_count 81 = .ok (.getfield 7, 3) := by decide +kernel
theorem dX9_count_84 : decode cX9_count 84 = .ok (.iconst 2, 1) := by decide +kernel
theorem dX9_count_85 : decode cX9_count 85 = .ok (.iaload, 1) := by decide +kernel
theorem dX9_count_86 : decode cX9_count 86 = .ok (.ireturn, 1) := by decide +kernel
theorem dX9_count_87 : decode cX9_count 87 = .ok (.aload_n 0, 1) := by decide +kernel
theorem dX9_count_88 : decode cX9_count 88 = .ok (.getfield 7, 3) := by decide +kernel
theorem dX9_count_91 : decode cX9_count 91 = .ok (.bipush 6, 2) := by decide +kernel
theorem dX9_count_93 : decode cX9_count 93 = .ok (.iaload, 1) := by decide +kernel
theorem dX9_count_94 : decode cX9_count 94 = .ok (.ireturn, 1) := by decide +kernel
theorem dX9_count_95 : decode cX9_count 95 = .ok (.aload_n 0, 1) := by decide +kernel
theorem dX9_count_96 : decode cX9_count 96 = .ok (.getfield 16, 3) := by decide +kernel
theorem dX9_count_99 : decode cX9_count 99 = .ok (.iload_n 1, 1) := by decide +kernel
theorem dX9_count_100 : decode cX9_count 100 = .ok (.iconst 4, 1) := by decide +kernel
theorem dX9_count_101 : decode cX9_count 101 = .ok (.isub, 1) := by decide +kernel
theorem dX9_count_102 : decode cX9_count 102 = .ok (.aload_n 0, 1) := by decide +kernel
theorem dX9_count_103 : decode cX9_count 103 = .ok (.getfield 7, 3) := by decide +kernel
theorem dX9_count_106 : decode cX9_count 106 = .ok (.iconst 2, 1) := by decide +kernel
theorem dX9_count_107 : decode cX9_count 107 = .ok (.iaload, 1) := by decide +kernel
theorem dX9_count_108 : decode cX9_count 108 = .ok (.invokestatic 287, 3) := by decide +kernel
theorem dX9_count_111 : decode cX9_count 111 = .ok (.ireturn, 1) := by decide +kernel
theorem dX9_count_112 : decode cX9_count 112 = .ok (.aload_n 0, 1) := by decide +kernel
theorem dX9_count_113 : decode cX9_count 113 = .ok (.invokevirtual 290, 3) := by decide +kernel
theorem dX9_count_116 : decode cX9_count 116 = .ok (.ireturn, 1) := by decide +kernel
theorem dX9_count_117 : decode cX9_count 117 = .ok (.aload_n 0, 1) := by decide +kernel
theorem dX9_count_118 : decode cX9_count 118 = .ok (.getfield 75, 3) := by decide +kernel
theorem dX9_count_121 : decode cX9_count 121 = .ok (.ireturn, 1) := by decide +kernel
theorem dX9_count_122 : decode cX9_count 122 = .ok (.aload_n 0, 1) := by decide +kernel
theorem dX9_count_123 : decode cX9_count 123 = .ok (.getfield 68, 3) := by decide +kernel
theorem dX9_count_126 : decode cX9_count 126 = .ok (.ireturn, 1) := by decide +kernel
theorem dX9_count_127 : decode cX9_count 127 = .ok (.aload_n 0, 1) := by decide +kernel
theorem dX9_count_128 : decode cX9_count 128 = .ok (.getfield 72, 3) := by decide +kernel
theorem dX9_count_131 : decode cX9_count 131 = .ok (.ireturn, 1) := by decide +kernel
theorem dX9_count_132 : decode cX9_count 132 = .ok (.aload_n 0, 1) := by decide +kernel
theorem dX9_count_133 : decode cX9_count 133 = .ok (.getfield 86, 3) := by decide +kernel
theorem dX9_count_136 : decode cX9_count 136 = .ok (.ireturn, 1) := by decide +kernel
theorem dX9_count_137 : decode cX9_count 137 = .ok (.iconst (-1), 1) := by decide +kernel
theorem dX9_count_138 : decode cX9_count 138 = .ok (.ireturn, 1) := by decide +kernel
theorem dJ6_bitCount_0f7a4_0 : decode cJ6_bitCount_0f7a4 0 = .ok (.iload_n 0, 1) := by decide +kernel
theorem dJ6_bitCount_0f7a4_1 : decode cJ6_bitCount_0f7a4 1 = .ok (.iload_n 0, 1) := by decide +kernel
theorem dJ6_bitCount_0f7a4_2 : decode cJ6_bitCount_0f7a4 2 = .ok (.iconst 1, 1) := by decide +kernel
theorem dJ6_bitCount_0f7a4_3 : decode cJ6_bitCount_0f7a4 3 = .ok (.iushr, 1) := by decide +kernel
theorem dJ6_bitCount_0f7a4_4 : decode cJ6_bitCount_0f7a4 4 = .ok (.ldc_w 265, 3) := by decide +kernel
theorem dJ6_bitCount_0f7a4_7 : decode cJ6_bitCount_0f7a4 7 = .ok (.iand, 1) := by decide +kernel
theorem dJ6_bitCount_0f7a4_8 : decode cJ6_bitCount_0f7a4 8 = .ok (.isub, 1) := by decide +kernel
theorem dJ6_bitCount_0f7a4_9 : decode cJ6_bitCount_0f7a4 9 = .ok (.istore_n 0, 1) := by decide +kernel
theorem dJ6_bitCount_0f7a4_10 : decode cJ6_bitCount_0f7a4 10 = .ok (.iload_n 0, 1) := by decide +kernel
theorem dJ6_bitCount_0f7a4_11 : decode cJ6_bitCount_0f7a4 11 = .ok (.ldc_w 266, 3) := by decide +kernel
theorem dJ6_bitCount_0f7a4_14 : decode cJ6_bitCount_0f7a4 14 = .ok (.iand, 1) := by decide +kernel
theorem dJ6_bitCount_0f7a4_15 : decode cJ6_bitCount_0f7a4 15 = .ok (.iload_n 0, 1) := by decide +kernel
theorem dJ6_bitCount_0f7a4_16 : decode cJ6_bitCount_0f7a4 16 = .ok (.iconst 2, 1) := by decide +kernel
theorem dJ6_bitCount_0f7a4_17 : decode cJ6_bitCount_0f7a4 17 = .ok (.iushr, 1) := by decide +kernel
theorem dJ6_bitCount_0f7a4_18 : decode cJ6_bitCount_0f7a4 18 = .ok (.ldc_w 266, 3) := by decide +kernel
theorem dJ6_bitCount_0f7a4_21 : decode cJ6_bitCount_0f7a4 21 = .ok (.iand, 1) := by decide +kernel
theorem dJ6_bitCount_0f7a4_22 : decode cJ6_bitCount_0f7a4 22 = .ok (.iadd, 1) := by decide +kernel
theorem dJ6_bitCount_0f7a4_23 : decode cJ6_bitCount_0f7a4 23 = .ok (.istore_n 0, 1) := by decide +kernel
theorem dJ6_bitCount_0f7a4_24 : decode cJ6_bitCount_0f7a4 24 = .ok (.iload_n 0, 1) := by decide +kernel
theorem dJ6_bitCount_0f7a4_25 : decode cJ6_bitCount_0f7a4 25 = .ok (.iload_n 0, 1) := by decide +kernel
theorem dJ6_bitCount_0f7a4_26 : decode cJ6_bitCount_0f7a4 26 = .ok (.iconst 4, 1) := by decide +kernel
theorem dJ6_bitCount_0f7a4_27 : decode cJ6_bitCount_0f7a4 27 = .ok (.iushr, 1) := by decide +kernel
theorem dJ6_bitCount_0f7a4_28 : decode cJ6_bitCount_0f7a4 28 = .ok (.iadd, 1) := by decide +kernel
theorem dJ6_bitCount_0f7a4_29 : decode cJ6_bitCount_0f7a4 29 = .ok (.ldc_w 267, 3) := by decide +kernel
theorem dJ6_bitCount_0f7a4_32 : decode cJ6_bitCount_0f7a4 32 = .ok (.iand, 1) := by decide +kernel
theorem dJ6_bitCount_0f7a4_33 : decode cJ6_bitCount_0f7a4 33 = .ok (.istore_n 0, 1) := by decide +kernel
theorem dJ6_bitCount_0f7a4_34 : decode cJ6_bitCount_0f7a4 34 = .ok (.iload_n 0, 1) := by decide +kernel
theorem dJ6_bitCount_0f7a4_35 : decode cJ6_bitCount_0f7a4 35 = .ok (.iload_n 0, 1) := by decide +kernel
theorem dJ6_bitCount_0f7a4_36 : decode cJ6_bitCount_0f7a4 36 = .ok (.bipush 8, 2) := by decide +kernel
theorem dJ6_bitCount_0f7a4_38 : decode cJ6_bitCount_0f7a4 38 = .ok (.iushr, 1) := by decide +kernel
theorem dJ6_bitCount_0f7a4_39 : decode cJ6_bitCount_0f7a4 39 = .ok (.iadd, 1) := by decide +kernel
theorem dJ6_bitCount_0f7a4_40 : decode cJ6_bitCount_0f7a4 40 = .ok (.istore_n 0, 1) := by decide +kernel
theorem dJ6_bitCount_0f7a4_41 : decode cJ6_bitCount_0f7a4 41 = .ok (.iload_n 0, 1) := by decide +kernel
theorem dJ6_bitCount_0f7a4_42 : decode cJ6_bitCount_0f7a4 42 = .ok (.iload_n 0, 1) := by decide +kernel
theorem dJ6_bitCount_0f7a4_43 : decode cJ6_bitCount_0f7a4 43 = .ok (.bipush 16, 2) := by decide +kernel
theorem dJ6_bitCount_0f7a4_45 : decode cJ6_bitCount_0f7a4 45 = .ok (.iushr, 1) := by decide +kernel
theorem dJ6_bitCount_0f7a4_46 : decode cJ6_bitCount_0f7a4 46 = .ok (.iadd, 1) := by decide +kernel
theorem dJ6_bitCount_0f7a4_47 : decode cJ6_bitCount_0f7a4 47 = .ok (.istore_n 0, 1) := by decide +kernel
theorem dJ6_bitCount_0f7a4_48 : decode cJ6_bitCount_0f7a4 48 = .ok (.iload_n 0, 1) := by decide +kernel
theorem dJ6_bitCount_0f7a4_49 : decode cJ6_bitCount_0f7a4 49 = .ok (.bipush 63, 2) := by decide +kernel
theorem dJ6_bitCount_0f7a4_51 : decode cJ6_bitCount_0f7a4 51 = .ok (.iand, 1) := by decide +kernel
theorem dJ6_bitCount_0f7a4_52 : decode cJ6_bitCount_0f7a4 52 = .ok (.ireturn, 1) := by decide +kernel
theorem dJ9_min_7cf53_0 : decode cJ9_min_7cf53 0 = .ok (.iload_n 0, 1) := by decide +kernel
theorem dJ9_min_7cf53_1 : decode cJ9_min_7cf53 1 = .ok (.iload_n 1, 1) := by decide +kernel
theorem dJ9_min_7cf53_2 : decode cJ9_min_7cf53 2 = .ok (.if_icmp .gt 7, 3) := by decide +kernel
theorem dJ9_min_7cf53_5 : decode cJ9_min_7cf53 5 = .ok (.iload_n 0, 1) := by decide +kernel
theorem dJ9_min_7cf53_6 : decode cJ9_min_7cf53 6 = .ok (.goto 4, 3) := by decide +kernel
theorem dJ9_min_7cf53_9 : decode cJ9_min_7cf53 9 = .ok (.iload_n 1, 1) := by decide +kernel
theorem dJ9_min_7cf53_10 : decode cJ9_min_7cf53 10 = .ok (.ireturn, 1) := by decide +kernel
theorem dJ0_length_8abf5_0 : decode cJ0_length_8abf5 0 = .ok (.aload_n 0, 1) := by decide +kernel
theorem dJ0_length_8abf5_1 : decode cJ0_length_8abf5 1 = .ok (.getfield 9, 3) := by decide +kernel
theorem dJ0_length_8abf5_4 : decode cJ0_length_8abf5 4 = .ok (.arraylength, 1) := by decide +kernel
theorem dJ0_length_8abf5_5 : decode cJ0_length_8abf5 5 = .ok (.aload_n 0, 1) := by decide +kernel
theorem dJ0_length_8abf5_6 : decode cJ0_length_8abf5 6 = .ok (.invokevirtual 335, 3) := by decide +kernel
theorem dJ0_length_8abf5_9 : decode cJ0_length_8abf5 9 = .ok (.ishr, 1) := by decide +kernel
theorem dJ0_length_8abf5_10 : decode cJ0_length_8abf5 10 = .ok (.ireturn, 1) := by decide +kernel
theorem dJ0_charAt_5068e_0 : decode cJ0_charAt_5068e 0 = .ok (.aload_n 0, 1) := by decide +kernel
theorem dJ0_charAt_5068e_1 : decode cJ0_charAt_5068e 1 = .ok (.invokevirtual 492, 3) := by decide +kernel
theorem dJ0_charAt_5068e_4 : decode cJ0_charAt_5068e 4 = .ok (.ifCond .eq 12, 3) := by decide +kernel
theorem dJ0_charAt_5068e_7 : decode cJ0_charAt_5068e 7 = .ok (.aload_n 0, 1) := by decide +kernel
theorem dJ0_charAt_5068e_8 : decode cJ0_charAt_5068e 8 = .ok (.getfield 9, 3) := by decide +kernel
theorem dJ0_charAt_5068e_11 : decode cJ0_charAt_5068e 11 = .ok (.iload_n 1, 1) := by decide +kernel
theorem dJ0_charAt_5068e_12 : decode cJ0_charAt_5068e 12 = .ok (.invokestatic 495, 3) := by decide +kernel
theorem dJ0_charAt_5068e_15 : decode cJ0_charAt_5068e 15 = .ok (.ireturn, 1) := by decide +kernel
theorem dJ0_charAt_5068e_16 : decode cJ0_charAt_5068e 16 = .ok (.aload_n 0, 1) := by decide +kernel
theorem dJ0_charAt_5068e_17 : decode cJ0_charAt_5068e 17 = .ok (.getfield 9, 3) := by decide +kernel
theorem dJ0_charAt_5068e_20 : decode cJ0_charAt_5068e 20 = .ok (.iload_n 1, 1) := by decide +kernel
theorem dJ0_charAt_5068e_21 : decode cJ0_charAt_5068e 21 = .ok (.invokestatic 498, 3) := by decide +kernel
theorem dJ0_charAt_5068e_24 : decode cJ0_charAt_5068e 24 = .ok (.ireturn, 1) := by decide +kernel
theorem dJ0_coder_7d493_0 : decode cJ0_coder_7d493 0 = .ok (.getstatic 38, 3) := by decide +kernel
theorem dJ0_coder_7d493_3 : decode cJ0_coder_7d493 3 = .ok (.ifCond .eq 10, 3) := by decide +kernel
theorem dJ0_coder_7d493_6 : decode cJ0_coder_7d493 6 = .ok (.aload_n 0, 1) := by decide +kernel
theorem dJ0_coder_7d493_7 : decode cJ0_coder_7d493 7 = .ok (.getfield 15, 3) := by decide +kernel
theorem dJ0_coder_7d493_10 : decode cJ0_coder_7d493 10 = .ok (.goto 4, 3) := by decide +kernel
theorem dJ0_coder_7d493_13 : decode cJ0_coder_7d493 13 = .ok (.iconst 1, 1) := by decide +kernel
theorem dJ0_coder_7d493_14 : decode cJ0_coder_7d493 14 = .ok (.ireturn, 1) := by decide +kernel
theorem dJ0_isLatin1_aae02_0 : decode cJ0_isLatin1_aae02 0 = .ok (.getstatic 38, 3) := by decide +kernel
theorem dJ0_isLatin1_aae02_3 : decode cJ0_isLatin1_aae02 3 = .ok (.ifCond .eq 14, 3) := by decide +kernel
theorem dJ0_isLatin1_aae02_6 : decode cJ0_isLatin1_aae02 6 = .ok (.aload_n 0, 1) := by decide +kernel
theorem dJ0_isLatin1_aae02_7 : decode cJ0_isLatin1_aae02 7 = .ok (.getfield 15, 3) := by decide +kernel
theorem dJ0_isLatin1_aae02_10 : decode cJ0_isLatin1_aae02 10 = .ok (.ifCond .ne 7, 3) := by decide +kernel
theorem dJ0_isLatin1_aae02_13 : decode cJ0_isLatin1_aae02 13 = .ok (.iconst 1, 1) := by decide +kernel
theorem dJ0_isLatin1_aae02_14 : decode cJ0_isLatin1_aae02 14 = .ok (.goto 4, 3) := by decide +kernel
theorem dJ0_isLatin1_aae02_17 : decode cJ0_isLatin1_aae02 17 = .ok (.iconst 0, 1) := by decide +kernel
theorem dJ0_isLatin1_aae02_18 : decode cJ0_isLatin1_aae02 18 = .ok (.ireturn, 1) := by decide +kernel
theorem dJ0_checkIndex_df160_0 : decode cJ0_checkIndex_df160 0 = .ok (.iload_n 0, 1) := by decide +kernel
theorem dJ0_checkIndex_df160_1 : decode cJ0_checkIndex_df160 1 = .ok (.iload_n 1, 1) := by decide +kernel
theorem dJ0_checkIndex_df160_2 : decode cJ0_checkIndex_df160 2 = .ok (.getstatic 1053, 3) := by decide +kernel
theorem dJ0_checkIndex_df160_5 : decode cJ0_checkIndex_df160 5 = .ok (.invokestatic 1059, 3) := by decide +kernel
theorem dJ0_checkIndex_df160_8 : decode cJ0_checkIndex_df160 8 = .ok (.pop, 1) := by decide +kernel
theorem dJ0_checkIndex_df160_9 : decode cJ0_checkIndex_df160 9 = .ok (.return_, 1) := by decide +kernel
theorem dJ1_charAt_3b067_0 : decode cJ1_charAt_3b067 0 = .ok (.iload_n 1, 1) := by decide +kernel
theorem dJ1_charAt_3b067_1 : decode cJ1_charAt_3b067 1 = .ok (.aload_n 0, 1) := by decide +kernel
theorem dJ1_charAt_3b067_2 : decode cJ1_charAt_3b067 2 = .ok (.arraylength, 1) := by decide +kernel
theorem dJ1_charAt_3b067_3 : decode cJ1_charAt_3b067 3 = .ok (.invokestatic 9, 3) := by decide +kernel
theorem dJ1_charAt_3b067_6 : decode cJ1_charAt_3b067 6 = .ok (.aload_n 0, 1) := by decide +kernel
theorem dJ1_charAt_3b067_7 : decode cJ1_charAt_3b067 7 = .ok (.iload_n 1, 1) := by decide +kernel
theorem dJ1_charAt_3b067_8 : decode cJ1_charAt_3b067 8 = .ok (.baload, 1) := by decide +kernel
theorem dJ1_charAt_3b067_9 : decode cJ1_charAt_3b067 9 = .ok (.sipush 255, 3) := by decide +kernel
theorem dJ1_charAt_3b067_12 : decode cJ1_charAt_3b067 12 = .ok (.iand, 1) := by decide +kernel
theorem dJ1_charAt_3b067_13 : decode cJ1_charAt_3b067 13 = .ok (.i2c, 1) := by decide +kernel
theorem dJ1_charAt_3b067_14 : decode cJ1_charAt_3b067 14 = .ok (.ireturn, 1) := by decide +kernel
theorem dJ2_getChar_3b067_0 : decode cJ2_getChar_3b067 0 = .ok (.getstatic 44, 3) := by decide +kernel
theorem dJ2_getChar_3b067_3 : decode cJ2_getChar_3b067 3 = .ok (.ifCond .ne 25, 3) := by decide +kernel
theorem dJ2_getChar_3b067_6 : decode cJ2_getChar_3b067 6 = .ok (.iload_n 1, 1) := by decide +kernel
theorem dJ2_getChar_3b067_7 : decode cJ2_getChar_3b067 7 = .ok (.ifCond .lt 11, 3) := by decide +kernel
theorem dJ2_getChar_3b067_10 : decode cJ2_getChar_3b067 10 = .ok (.iload_n 1, 1) := by decide +kernel
theorem dJ2_getChar_3b067_11 : decode cJ2_getChar_3b067 11 = .ok (.aload_n 0, 1) := by decide +kernel
theorem dJ2_getChar_3b067_12 : decode cJ2_getChar_3b067 12 = .ok (.invokestatic 48, 3) := by decide +kernel
theorem dJ2_getChar_3b067_15 : decode cJ2_getChar_3b067 15 = .ok (.if_icmp .lt 13, 3) := by decide +kernel
theorem dJ2_getChar_3b067_18 : decode cJ2_getChar_3b067 18 = .ok (.new 52, 3) := by decide +kernel
theorem dJ2_getChar_3b067_21 : decode cJ2_getChar_3b067 21 = .ok (.dup, 1) := by decide +kernel
theorem dJ2_getChar_3b067_22 : decode cJ2_getChar_3b067 22 = .ok (.ldc 54, 2) := by decide +kernel
theorem dJ2_getChar_3b067_24 : decode cJ2_getChar_3b067 24 = .ok (.invokespecial 56, 3) := by decide +kernel
theorem dJ2_getChar_3b067_27 : decode cJ2_getChar_3b067 27 = .ok (.athrow, 1) := by decide +kernel
theorem dJ2_getChar_3b067_28 : decode cJ2_getChar_3b067 28 = .ok (.iload_n 1, 1) := by decide +kernel
theorem dJ2_getChar_3b067_29 : decode cJ2_getChar_3b067 29 = .ok (.iconst 1, 1) := by decide +kernel
theorem dJ2_getChar_3b067_30 : decode cJ2_getChar_3b067 30 = .ok (.ishl, 1) := by decide +kernel
theorem dJ2_getChar_3b067_31 : decode cJ2_getChar_3b067 31 = .ok (.istore_n 1, 1) := by decide +kernel
theorem dJ2_getChar_3b067_32 : decode cJ2_getChar_3b067 32 = .ok (.aload_n 0, 1) := by decide +kernel
theorem dJ2_getChar_3b067_33 : decode cJ2_getChar_3b067 33 = .ok (.iload_n 1, 1) := by decide +kernel
theorem dJ2_getChar_3b067_34 : decode cJ2_getChar_3b067 34 = .ok (.iinc 1 1, 3) := by decide +kernel
theorem dJ2_getChar_3b067_37 : decode cJ2_getChar_3b067 37 = .ok (.baload, 1) := by decide +kernel
theorem dJ2_getChar_3b067_38 : decode cJ2_getChar_3b067 38 = .ok (.sipush 255, 3) := by decide +kernel
theorem dJ2_getChar_3b067_41 : decode cJ2_getChar_3b067 41 = .ok (.iand, 1) := by decide +kernel
theorem dJ2_getChar_3b067_42 : decode cJ2_getChar_3b067 42 = .ok (.getstatic 59, 3) := by decide +kernel
theorem dJ2_getChar_3b067_45 : decode cJ2_getChar_3b067 45 = .ok (.ishl, 1) := by decide +kernel
theorem dJ2_getChar_3b067_46 : decode cJ2_getChar_3b067 46 = .ok (.aload_n 0, 1) := by decide +kernel
theorem dJ2_getChar_3b067_47 : decode cJ2_getChar_3b067 47 = .ok (.iload_n 1, 1) := by decide +kernel
theorem dJ2_getChar_3b067_48 : decode cJ2_getChar_3b067 48 = .ok (.baload, 1) := by decide +kernel
theorem dJ2_getChar_3b067_49 : decode cJ2_getChar_3b067 49 = .ok (.sipush 255, 3) := by decide +kernel
theorem dJ2_getChar_3b067_52 : decode cJ2_getChar_3b067 52 = .ok (.iand, 1) := by decide +kernel
theorem dJ2_getChar_3b067_53 : decode cJ2_getChar_3b067 53 = .ok (.getstatic 63, 3) := by decide +kernel
theorem dJ2_getChar_3b067_56 : decode cJ2_getChar_3b067 56 = .ok (.ishl, 1) := by decide +kernel
theorem dJ2_getChar_3b067_57 : decode cJ2_getChar_3b067 57 = .ok (.ior, 1) := by decide +kernel
theorem dJ2_getChar_3b067_58 : decode cJ2_getChar_3b067 58 = .ok (.i2c, 1) := by decide +kernel
theorem dJ2_getChar_3b067_59 : decode cJ2_getChar_3b067 59 = .ok (.ireturn, 1) := by decide +kernel
theorem dJ2_length_9d52b_0 : decode cJ2_length_9d52b 0 = .ok (.aload_n 0, 1) := by decide +kernel
theorem dJ2_length_9d52b_1 : decode cJ2_length_9d52b 1 = .ok (.arraylength, 1) := by decide +kernel
theorem dJ2_length_9d52b_2 : decode cJ2_length_9d52b 2 = .ok (.iconst 1, 1) := by decide +kernel
theorem dJ2_length_9d52b_3 : decode cJ2_length_9d52b 3 = .ok (.ishr, 1) := by decide +kernel
theorem dJ2_length_9d52b_4 : decode cJ2_length_9d52b 4 = .ok (.ireturn, 1) := by decide +kernel
theorem dJ2_charAt_3b067_0 : decode cJ2_charAt_3b067 0 = .ok (.iload_n 1, 1) := by decide +kernel
theorem dJ2_charAt_3b067_1 : decode cJ2_charAt_3b067 1 = .ok (.aload_n 0, 1) := by decide +kernel
theorem dJ2_charAt_3b067_2 : decode cJ2_charAt_3b067 2 = .ok (.invokestatic 67, 3) := by decide +kernel
theorem dJ2_charAt_3b067_5 : decode cJ2_charAt_3b067 5 = .ok (.aload_n 0, 1) := by decide +kernel
theorem dJ2_charAt_3b067_6 : decode cJ2_charAt_3b067 6 = .ok (.iload_n 1, 1) := by decide +kernel
theorem dJ2_charAt_3b067_7 : decode cJ2_charAt_3b067 7 = .ok (.invokestatic 71, 3) := by decide +kernel
theorem dJ2_charAt_3b067_10 : decode cJ2_charAt_3b067 10 = .ok (.ireturn, 1) := by decide +kernel
theorem dJ2_checkIndex_2214a_0 : decode cJ2_checkIndex_2214a 0 = .ok (.iload_n 0, 1) := by decide +kernel
theorem dJ2_checkIndex_2214a_1 : decode cJ2_checkIndex_2214a 1 = .ok (.aload_n 1, 1) := by decide +kernel
theorem dJ2_checkIndex_2214a_2 : decode cJ2_checkIndex_2214a 2 = .ok (.invokestatic 48, 3) := by decide +kernel
theorem dJ2_checkIndex_2214a_5 : decode cJ2_checkIndex_2214a 5 = .ok (.invokestatic 414, 3) := by decide +kernel
theorem dJ2_checkIndex_2214a_8 : decode cJ2_checkIndex_2214a 8 = .ok (.return_, 1) := by decide +kernel
theorem dJ3_checkIndex_8e157_0 : decode cJ3_checkIndex_8e157 0 = .ok (.iload_n 0, 1) := by decide +kernel
theorem dJ3_checkIndex_8e157_1 : decode cJ3_checkIndex_8e157 1 = .ok (.ifCond .lt 8, 3) := by decide +kernel
theorem dJ3_checkIndex_8e157_4 : decode cJ3_checkIndex_8e157 4 = .ok (.iload_n 0, 1) := by decide +kernel
theorem dJ3_checkIndex_8e157_5 : decode cJ3_checkIndex_8e157 5 = .ok (.iload_n 1, 1) := by decide +kernel
theorem dJ3_checkIndex_8e157_6 : decode cJ3_checkIndex_8e157 6 = .ok (.if_icmp .lt 10, 3) := by decide +kernel
theorem dJ3_checkIndex_8e157_9 : decode cJ3_checkIndex_8e157 9 = .ok (.aload_n 2, 1) := by decide +kernel
theorem dJ3_checkIndex_8e157_10 : decode cJ3_checkIndex_8e157 10 = .ok (.iload_n 0, 1) := by decide +kernel
theorem dJ3_checkIndex_8e157_11 : decode cJ3_checkIndex_8e157 11 = .ok (.iload_n 1, 1) := by decide +kernel
theorem dJ3_checkIndex_8e157_12 : decode cJ3_checkIndex_8e157 12 = .ok (.invokestatic 95, 3) := by decide +kernel
theorem dJ3_checkIndex_8e157_15 : decode cJ3_checkIndex_8e157 15 = .ok (.athrow, 1) := by decide +kernel
theorem dJ3_checkIndex_8e157_16 : decode cJ3_checkIndex_8e157 16 = .ok (.iload_n 0, 1) := by decide +kernel
theorem dJ3_checkIndex_8e157_17 : decode cJ3_checkIndex_8e157 17 = .ok (.ireturn, 1) := by decide +kernel
theorem dL_law_0 : decode cL_law 0 = .ok (.new 7, 3) := by decide +kernel
theorem dL_law_3 : decode cL_law 3 = .ok (.dup, 1) := by decide +kernel
theorem dL_law_4 : decode cL_law 4 = .ok (.invokespecial 9, 3) := by decide +kernel
theorem dL_law_7 : decode cL_law 7 = .ok (.astore_n 1, 1) := by decide +kernel
theorem dL_law_8 : decode cL_law 8 = .ok (.new 10, 3) := by decide +kernel
theorem dL_law_11 : decode cL_law 11 = .ok (.dup, 1) := by decide +kernel
theorem dL_law_12 : decode cL_law 12 = .ok (.invokespecial 12, 3) := by decide +kernel
theorem dL_law_15 : decode cL_law 15 = .ok (.astore_n 2, 1) := by decide +kernel
theorem dL_law_16 : decode cL_law 16 = .ok (.iconst 0, 1) := by decide +kernel
theorem dL_law_17 : decode cL_law 17 = .ok (.istore_n 3, 1) := by decide +kernel
theorem dL_law_18 : decode cL_law 18 = .ok (.iload_n 3, 1) := by decide +kernel
theorem dL_law_19 : decode cL_law 19 = .ok (.aload_n 0, 1) := by decide +kernel
theorem dL_law_20 : decode cL_law 20 = .ok (.arraylength, 1) := by decide +kernel
theorem dL_law_21 : decode cL_law 21 = .ok (.iconst 4, 1) := by decide +kernel
theorem dL_law_22 : decode cL_law 22 = .ok (.isub, 1) := by decide +kernel
theorem dL_law_23 : decode cL_law 23 = .ok (.if_icmp .gt 921, 3) := by decide +kernel
theorem dL_law_26 : decode cL_law 26 = .ok (.aload_n 0, 1) := by decide +kernel
theorem dL_law_27 : decode cL_law 27 = .ok (.iload_n 3, 1) := by decide +kernel
theorem dL_law_28 : decode cL_law 28 = .ok (.iaload, 1) := by decide +kernel
theorem dL_law_29 : decode cL_law 29 = .ok (.bipush 31, 2) := by decide +kernel
theorem dL_law_31 : decode cL_law 31 = .ok (.iand, 1) := by decide +kernel
theorem dL_law_32 : decode cL_law 32 = .ok (.tableswitch 906 0 29 #[136, 159, 172, 185, 198, 231, 254, 287, 320, 353, 376, 409, 422, 455, 498, 521, 564, 587, 610, 633, 666, 679, 712, 725, 748, 771, 814, 857, 870, 883], 136) := by decide +kernel
theorem dL_law_168 : decode cL_law 168 = .ok (.aload_n 1, 1) := by decide +kernel
theorem dL_law_169 : decode cL_law 169 = .ok (.aload_n 0, 1) := by decide +kernel
theorem dL_law_170 : decode cL_law 170 = .ok (.iload_n 3, 1) := by decide +kernel
theorem dL_law_171 : decode cL_law 171 = .ok (.iconst 1, 1) := by decide +kernel
theorem dL_law_172 : decode cL_law 172 = .ok (.iadd, 1) := by decide +kernel
theorem dL_law_173 : decode cL_law 173 = .ok (.iaload, 1) := by decide +kernel
theorem dL_law_174 : decode cL_law 174 = .ok (.invokevirtual 13, 3) := by decide +kernel
theorem dL_law_177 : decode cL_law 177 = .ok (.pop, 1) := by decide +kernel
theorem dL_law_178 : decode cL_law 178 = .ok (.aload_n 2, 1) := by decide +kernel
theorem dL_law_179 : decode cL_law 179 = .ok (.aload_n 0, 1) := by decide +kernel
theorem dL_law_180 : decode cL_law 180 = .ok (.iload_n 3, 1) := by decide +kernel
theorem dL_law_181 : decode cL_law 181 = .ok (.iconst 1, 1) := by decide +kernel
theorem dL_law_182 : decode cL_law 182 = .ok (.iadd, 1) := by decide +kernel
theorem dL_law_183 : decode cL_law 183 = .ok (.iaload, 1) := by decide +kernel
theorem dL_law_184 : decode cL_law 184 = .ok (.invokevirtual 17, 3) := by decide +kernel
theorem dL_law_187 : decode cL_law 187 = .ok (.pop, 1) := by decide +kernel
theorem dL_law_188 : decode cL_law 188 = .ok (.goto 750, 3) := by decide +kernel
theorem dL_law_191 : decode cL_law 191 = .ok (.aload_n 1, 1) := by decide +kernel
theorem dL_law_192 : decode cL_law 192 = .ok (.invokevirtual 18, 3) := by decide +kernel
theorem dL_law_195 : decode cL_law 195 = .ok (.pop, 1) := by decide +kernel
theorem dL_law_196 : decode cL_law 196 = .ok (.aload_n 2, 1) := by decide +kernel
theorem dL_law_197 : decode cL_law 197 = .ok (.invokevirtual 22, 3) := by decide +kernel
theorem dL_law_200 : decode cL_law 200 = .ok (.pop, 1) := by decide +kernel
theorem dL_law_201 : decode cL_law 201 = .ok (.goto 737, 3) := by decide +kernel
theorem dL_law_204 : decode cL_law 204 = .ok (.aload_n 1, 1) := by decide +kernel
theorem dL_law_205 : decode cL_law 205 = .ok (.invokevirtual 23, 3) := by decide +kernel
theorem dL_law_208 : decode cL_law 208 = .ok (.pop, 1) := by decide +kernel
theorem dL_law_209 : decode cL_law 209 = .ok (.aload_n 2, 1) := by decide +kernel
theorem dL_law_210 : decode cL_law 210 = .ok (.invokevirtual 26, 3) := by decide +kernel
theorem dL_law_213 : decode cL_law 213 = .ok (.pop, 1) := by decide +kernel
theorem dL_law_214 : decode cL_law 214 = .ok (.goto 724, 3) := by decide +kernel
theorem dL_law_217 : decode cL_law 217 = .ok (.aload_n 1, 1) := by decide +kernel
theorem dL_law_218 : decode cL_law 218 = .ok (.invokevirtual 27, 3) := by decide +kernel
theorem dL_law_221 : decode cL_law 221 = .ok (.pop, 1) := by decide +kernel
theorem dL_law_222 : decode cL_law 222 = .ok (.aload_n 2, 1) := by decide +kernel
theorem dL_law_223 : decode cL_law 223 = .ok (.invokevirtual 30, 3) := by decide +kernel
theorem dL_law_226 : decode cL_law 226 = .ok (.pop, 1) := by decide +kernel
theorem dL_law_227 : decode cL_law 227 = .ok (.goto 711, 3) := by decide +kernel
theorem dL_law_230 : decode cL_law 230 = .ok (.aload_n 1, 1) := by decide +kernel
theorem dL_law_231 : decode cL_law 231 = .ok (.aload_n 0, 1) := by decide +kernel
theorem dL_law_232 : decode cL_law 232 = .ok (.iload_n 3, 1) := by decide +kernel
theorem dL_law_233 : decode cL_law 233 = .ok (.iconst 1, 1) := by decide +kernel
theorem dL_law_234 : decode cL_law 234 = .ok (.iadd, 1) := by decide +kernel
theorem dL_law_235 : decode cL_law 235 = .ok (.iaload, 1) := by decide +kernel
theorem dL_law_236 : decode cL_law 236 = .ok (.aload_n 0, 1) := by decide +kernel
theorem dL_law_237 : decode cL_law 237 = .ok (.iload_n 3, 1) := by decide +kernel
theorem dL_law_238 : decode cL_law 238 = .ok (.iconst 2, 1) := by decide +kernel
theorem dL_law_239 : decode cL_law 239 = .ok (.iadd, 1) := by decide +kernel
theorem dL_law_240 : decode cL_law 240 = .ok (.iaload, 1) := by decide +kernel
theorem dL_law_241 : decode cL_law 241 = .ok (.invokevirtual 31, 3) := by decide +kernel
theorem dL_law_244 : decode cL_law 244 = .ok (.pop, 1) := by decide +kernel
theorem dL_law_245 : decode cL_law 245 = .ok (.aload_n 2, 1) := by decide +kernel
theorem dL_law_246 : decode cL_law 246 = .ok (.aload_n 0, 1) := by decide +kernel
theorem dL_law_247 : decode cL_law 247 = .ok (.iload_n 3, 1) := by decide +kernel
theorem dL_law_248 : decode cL_law 248 = .ok (.iconst 1, 1) := by decide +kernel
theorem dL_law_249 : decode cL_law 249 = .ok (.iadd, 1) := by decide +kernel
theorem dL_law_250 : decode cL_law 250 = .ok (.iaload, 1) := by decide +kernel
theorem dL_law_251 : decode cL_law 251 = .ok (.aload_n 0, 1) := by decide +kernel
theorem dL_law_252 : decode cL_law 252 = .ok (.iload_n 3, 1) := by decide +kernel
theorem dL_law_253 : decode cL_law 253 = .ok (.iconst 2, 1) := by decide +kernel
theorem dL_law_254 : decode cL_law 254 = .ok (.iadd, 1) := by decide +kernel
theorem dL_law_255 : decode cL_law 255 = .ok (.iaload, 1) := by decide +kernel
theorem dL_law_256 : decode cL_law 256 = .ok (.invokevirtual 35, 3) := by decide +kernel
theorem dL_law_259 : decode cL_law 259 = .ok (.pop, 1) := by decide +kernel
theorem dL_law_260 : decode cL_law 260 = .ok (.goto 678, 3) := by decide +kernel
theorem dL_law_263 : decode cL_law 263 = .ok (.aload_n 1, 1) := by decide +kernel
theorem dL_law_264 : decode cL_law 264 = .ok (.aload_n 0, 1) := by decide +kernel
theorem dL_law_265 : decode cL_law 265 = .ok (.iload_n 3, 1) := by decide +kernel
theorem dL_law_266 : decode cL_law 266 = .ok (.iconst 1, 1) := by decide +kernel
theorem dL_law_267 : decode cL_law 267 = .ok (.iadd, 1) := by decide +kernel
theorem dL_law_268 : decode cL_law 268 = .ok (.iaload, 1) := by decide +kernel
theorem dL_law_269 : decode cL_law 269 = .ok (.invokevirtual 36, 3) := by decide +kernel
theorem dL_law_272 : decode cL_law 272 = .ok (.pop, 1) := by decide +kernel
theorem dL_law_273 : decode cL_law 273 = .ok (.aload_n 2, 1) := by decide +kernel
theorem dL_law_274 : decode cL_law 274 = .ok (.aload_n 0, 1) := by decide +kernel
theorem dL_law_275 : decode cL_law 275 = .ok (.iload_n 3, 1) := by decide +kernel
theorem dL_law_276 : decode cL_law 276 = .ok (.iconst 1, 1) := by decide +kernel
theorem dL_law_277 : decode cL_law 277 = .ok (.iadd, 1) := by decide +kernel
theorem dL_law_278 : decode cL_law 278 = .ok (.iaload, 1) := by decide +kernel
theorem dL_law_279 : decode cL_law 279 = .ok (.invokevirtual 39, 3) := by decide +kernel
theorem dL_law_282 : decode cL_law 282 = .ok (.pop, 1) := by decide +kernel
theorem dL_law_283 : decode cL_law 283 = .ok (.goto 655, 3) := by decide +kernel
theorem dL_law_286 : decode cL_law 286 = .ok (.aload_n 1, 1) := by decide +kernel
theorem dL_law_287 : decode cL_law 287 = .ok (.aload_n 0, 1) := by decide +kernel
theorem dL_law_288 : decode cL_law 288 = .ok (.iload_n 3, 1) := by decide +kernel
theorem dL_law_289 : decode cL_law 289 = .ok (.iconst 1, 1) := by decide +kernel
theorem dL_law_290 : decode cL_law 290 = .ok (.iadd, 1) := by decide +kernel
theorem dL_law_291 : decode cL_law 291 = .ok (.iaload, 1) := by decide +kernel
theorem dL_law_292 : decode cL_law 292 = .ok (.aload_n 0, 1) := by decide +kernel
theorem dL_law_293 : decode cL_law 293 = .ok (.iload_n 3, 1) := by decide +kernel
theorem dL_law_294 : decode cL_law 294 = .ok (.iconst 2, 1) := by decide +kernel
theorem dL_law_295 : decode cL_law 295 = .ok (.iadd, 1) := by decide +kernel
theorem dL_law_296 : decode cL_law 296 = .ok (.iaload, 1) := by decide +kernel
theorem dL_law_297 : decode cL_law 297 = .ok (.invokevirtual 40, 3) := by decide +kernel
theorem dL_law_300 : decode cL_law 300 = .ok (.pop, 1) := by decide +kernel
theorem dL_law_301 : decode cL_law 301 = .ok (.aload_n 2, 1) := by decide +kernel
theorem dL_law_302 : decode cL_law 302 = .ok (.aload_n 0, 1) := by decide +kernel
theorem dL_law_303 : decode cL_law 303 = .ok (.iload_n 3, 1) := by decide +kernel
theorem dL_law_304 : decode cL_law 304 = .ok (.iconst 1, 1) := by decide +kernel
theorem dL_law_305 : decode cL_law 305 = .ok (.iadd, 1) := by decide +kernel
theorem dL_law_306 : decode cL_law 306 = .ok (.iaload, 1) := by decide +kernel
theorem dL_law_307 : decode cL_law 307 = .ok (.aload_n 0, 1) := by decide +kernel
theorem dL_law_308 : decode cL_law 308 = .ok (.iload_n 3, 1) := by decide +kernel
theorem dL_law_309 : decode cL_law 309 = .ok (.iconst 2, 1) := by decide +kernel
theorem dL_law_310 : decode cL_law 310 = .ok (.iadd, 1) := by decide +kernel
theorem dL_law_311 : decode cL_law 311 = .ok (.iaload, 1) := by decide +kernel
theorem dL_law_312 : decode cL_law 312 = .ok (.invokevirtual 43, 3) := by decide +kernel
theorem dL_law_315 : decode cL_law 315 = .ok (.pop, 1) := by decide +kernel
theorem dL_law_316 : decode cL_law 316 = .ok (.goto 622, 3) := by decide +kernel
theorem dL_law_319 : decode cL_law 319 = .ok (.aload_n 1, 1) := by decide +kernel
theorem dL_law_320 : decode cL_law 320 = .ok (.aload_n 0, 1) := by decide +kernel
theorem dL_law_321 : decode cL_law 321 = .ok (.iload_n 3, 1) := by decide +kernel
theorem dL_law_322 : decode cL_law 322 = .ok (.iconst 1, 1) := by decide +kernel
theorem dL_law_323 : decode cL_law 323 = .ok (.iadd, 1) := by decide +kernel
theorem dL_law_324 : decode cL_law 324 = .ok (.iaload, 1) := by decide +kernel
theorem dL_law_325 : decode cL_law 325 = .ok (.aload_n 0, 1) := by decide +kernel
theorem dL_law_326 : decode cL_law 326 = .ok (.iload_n 3, 1) := by decide +kernel
theorem dL_law_327 : decode cL_law 327 = .ok (.iconst 2, 1) := by decide +kernel
theorem dL_law_328 : decode cL_law 328 = .ok (.iadd, 1) := by decide +kernel
theorem dL_law_329 : decode cL_law 329 = .ok (.iaload, 1) := by decide +kernel
theorem dL_law_330 : decode cL_law 330 = .ok (.invokevirtual 44, 3) := by decide +kernel
theorem dL_law_333 : decode cL_law 333 = .ok (.pop, 1) := by decide +kernel
theorem dL_law_334 : decode cL_law 334 = .ok (.aload_n 2, 1) := by decide +kernel
theorem dL_law_335 : decode cL_law 335 = .ok (.aload_n 0, 1) := by decide +kernel
theorem dL_law_336 : decode cL_law 336 = .ok (.iload_n 3, 1) := by decide +kernel
theorem dL_law_337 : decode cL_law 337 = .ok (.iconst 1, 1) := by decide +kernel
theorem dL_law_338 : decode cL_law 338 = .ok (.iadd, 1) := by decide +kernel
theorem dL_law_339 : decode cL_law 339 = .ok (.iaload, 1) := by decide +kernel
theorem dL_law_340 : decode cL_law 340 = .ok (.aload_n 0, 1) := by decide +kernel
theorem dL_law_341 : decode cL_law 341 = .ok (.iload_n 3, 1) := by decide +kernel
theorem dL_law_342 : decode cL_law 342 = .ok (.iconst 2, 1) := by decide +kernel
theorem dL_law_343 : decode cL_law 343 = .ok (.iadd, 1) := by decide +kernel
theorem dL_law_344 : decode cL_law 344 = .ok (.iaload, 1) := by decide +kernel
theorem dL_law_345 : decode cL_law 345 = .ok (.invokevirtual 47, 3) := by decide +kernel
theorem dL_law_348 : decode cL_law 348 = .ok (.pop, 1) := by decide +kernel
theorem dL_law_349 : decode cL_law 349 = .ok (.goto 589, 3) := by decide +kernel
theorem dL_law_352 : decode cL_law 352 = .ok (.aload_n 1, 1) := by decide +kernel
theorem dL_law_353 : decode cL_law 353 = .ok (.aload_n 0, 1) := by decide +kernel
theorem dL_law_354 : decode cL_law 354 = .ok (.iload_n 3, 1) := by decide +kernel
theorem dL_law_355 : decode cL_law 355 = .ok (.iconst 1, 1) := by decide +kernel
theorem dL_law_356 : decode cL_law 356 = .ok (.iadd, 1) := by decide +kernel
theorem dL_law_357 : decode cL_law 357 = .ok (.iaload, 1) := by decide +kernel
theorem dL_law_358 : decode cL_law 358 = .ok (.aload_n 0, 1) := by decide +kernel
theorem dL_law_359 : decode cL_law 359 = .ok (.iload_n 3, 1) := by decide +kernel
theorem dL_law_360 : decode cL_law 360 = .ok (.iconst 2, 1) := by decide +kernel
theorem dL_law_361 : decode cL_law 361 = .ok (.iadd, 1) := by decide +kernel
theorem dL_law_362 : decode cL_law 362 = .ok (.iaload, 1) := by decide +kernel
theorem dL_law_363 : decode cL_law 363 = .ok (.invokevirtual 48, 3) := by decide +kernel
theorem dL_law_366 : decode cL_law 366 = .ok (.pop, 1) := by decide +kernel
theorem dL_law_367 : decode cL_law 367 = .ok (.aload_n 2, 1) := by decide +kernel
theorem dL_law_368 : decode cL_law 368 = .ok (.aload_n 0, 1) := by decide +kernel
theorem dL_law_369 : decode cL_law 369 = .ok (.iload_n 3, 1) := by decide +kernel
theorem dL_law_370 : decode cL_law 370 = .ok (.iconst 1, 1) := by decide +kernel
theorem dL_law_371 : decode cL_law 371 = .ok (.iadd, 1) := by decide +kernel
theorem dL_law_372 : decode cL_law 372 = .ok (.iaload, 1) := by decide +kernel
theorem dL_law_373 : decode cL_law 373 = .ok (.aload_n 0, 1) := by decide +kernel
theorem dL_law_374 : decode cL_law 374 = .ok (.iload_n 3, 1) := by decide +kernel
theorem dL_law_375 : decode cL_law 375 = .ok (.iconst 2, 1) := by decide +kernel
theorem dL_law_376 : decode cL_law 376 = .ok (.iadd, 1) := by decide +kernel
theorem dL_law_377 : decode cL_law 377 = .ok (.iaload, 1) := by decide +kernel
theorem dL_law_378 : decode cL_law 378 = .ok (.invokevirtual 51, 3) := by decide +kernel
theorem dL_law_381 : decode cL_law 381 = .ok (.pop, 1) := by decide +kernel
theorem dL_law_382 : decode cL_law 382 = .ok (.goto 556, 3) := by decide +kernel
theorem dL_law_385 : decode cL_law 385 = .ok (.aload_n 1, 1) := by decide +kernel
theorem dL_law_386 : decode cL_law 386 = .ok (.aload_n 0, 1) := by decide +kernel
theorem dL_law_387 : decode cL_law 387 = .ok (.iload_n 3, 1) := by decide +kernel
theorem dL_law_388 : decode cL_law 388 = .ok (.iconst 1, 1) := by decide +kernel
theorem dL_law_389 : decode cL_law 389 = .ok (.iadd, 1) := by decide +kernel
theorem dL_law_390 : decode cL_law 390 = .ok (.iaload, 1) := by decide +kernel
theorem dL_law_391 : decode cL_law 391 = .ok (.invokevirtual 52, 3) := by decide +kernel
theorem dL_law_394 : decode cL_law 394 = .ok (.pop, 1) := by decide +kernel
theorem dL_law_395 : decode cL_law 395 = .ok (.aload_n 2, 1) := by decide +kernel
theorem dL_law_396 : decode cL_law 396 = .ok (.aload_n 0, 1) := by decide +kernel
theorem dL_law_397 : decode cL_law 397 = .ok (.iload_n 3, 1) := by decide +kernel
theorem dL_law_398 : decode cL_law 398 = .ok (.iconst 1, 1) := by decide +kernel
theorem dL_law_399 : decode cL_law 399 = .ok (.iadd, 1) := by decide +kernel
theorem dL_law_400 : decode cL_law 400 = .ok (.iaload, 1) := by decide +kernel
theorem dL_law_401 : decode cL_law 401 = .ok (.invokevirtual 55, 3) := by decide +kernel
theorem dL_law_404 : decode cL_law 404 = .ok (.pop, 1) := by decide +kernel
theorem dL_law_405 : decode cL_law 405 = .ok (.goto 533, 3) := by decide +kernel
theorem dL_law_408 : decode cL_law 408 = .ok (.aload_n 1, 1) := by decide +kernel
theorem dL_law_409 : decode cL_law 409 = .ok (.aload_n 0, 1) := by decide +kernel
theorem dL_law_410 : decode cL_law 410 = .ok (.iload_n 3, 1) := by decide +kernel
theorem dL_law_411 : decode cL_law 411 = .ok (.iconst 1, 1) := by decide +kernel
theorem dL_law_412 : decode cL_law 412 = .ok (.iadd, 1) := by decide +kernel
theorem dL_law_413 : decode cL_law 413 = .ok (.iaload, 1) := by decide +kernel
theorem dL_law_414 : decode cL_law 414 = .ok (.aload_n 0, 1) := by decide +kernel
theorem dL_law_415 : decode cL_law 415 = .ok (.iload_n 3, 1) := by decide +kernel
theorem dL_law_416 : decode cL_law 416 = .ok (.iconst 2, 1) := by decide +kernel
theorem dL_law_417 : decode cL_law 417 = .ok (.iadd, 1) := by decide +kernel
theorem dL_law_418 : decode cL_law 418 = .ok (.iaload, 1) := by decide +kernel
theorem dL_law_419 : decode cL_law 419 = .ok (.invokevirtual 56, 3) := by decide +kernel
theorem dL_law_422 : decode cL_law 422 = .ok (.pop, 1) := by decide +kernel
theorem dL_law_423 : decode cL_law 423 = .ok (.aload_n 2, 1) := by decide +kernel
theorem dL_law_424 : decode cL_law 424 = .ok (.aload_n 0, 1) := by decide +kernel
theorem dL_law_425 : decode cL_law 425 = .ok (.iload_n 3, 1) := by decide +kernel
theorem dL_law_426 : decode cL_law 426 = .ok (.iconst 1, 1) := by decide +kernel
theorem dL_law_427 : decode cL_law 427 = .ok (.iadd, 1) := by decide +kernel
theorem dL_law_428 : decode cL_law 428 = .ok (.iaload, 1) := by decide +kernel
theorem dL_law_429 : decode cL_law 429 = .ok (.aload_n 0, 1) := by decide +kernel
theorem dL_law_430 : decode cL_law 430 = .ok (.iload_n 3, 1) := by decide +kernel
theorem dL_law_431 : decode cL_law 431 = .ok (.iconst 2, 1) := by decide +kernel
theorem dL_law_432 : decode cL_law 432 = .ok (.iadd, 1) := by decide +kernel
theorem dL_law_433 : decode cL_law 433 = .ok (.iaload, 1) := by decide +kernel
theorem dL_law_434 : decode cL_law 434 = .ok (.invokevirtual 59, 3) := by decide +kernel
theorem dL_law_437 : decode cL_law 437 = .ok (.pop, 1) := by decide +kernel
theorem dL_law_438 : decode cL_law 438 = .ok (.goto 500, 3) := by decide +kernel
theorem dL_law_441 : decode cL_law 441 = .ok (.aload_n 1, 1) := by decide +kernel
theorem dL_law_442 : decode cL_law 442 = .ok (.invokevirtual 60, 3) := by decide +kernel
theorem dL_law_445 : decode cL_law 445 = .ok (.pop, 1) := by decide +kernel
theorem dL_law_446 : decode cL_law 446 = .ok (.aload_n 2, 1) := by decide +kernel
theorem dL_law_447 : decode cL_law 447 = .ok (.invokevirtual 63, 3) := by decide +kernel
theorem dL_law_450 : decode cL_law 450 = .ok (.pop, 1) := by decide +kernel
theorem dL_law_451 : decode cL_law 451 = .ok (.goto 487, 3) := by decide +kernel
theorem dL_law_454 : decode cL_law 454 = .ok (.aload_n 1, 1) := by decide +kernel
theorem dL_law_455 : decode cL_law 455 = .ok (.aload_n 0, 1) := by decide +kernel
theorem dL_law_456 : decode cL_law 456 = .ok (.iload_n 3, 1) := by decide +kernel
theorem dL_law_457 : decode cL_law 457 = .ok (.iconst 1, 1) := by decide +kernel
theorem dL_law_458 : decode cL_law 458 = .ok (.iadd, 1) := by decide +kernel
theorem dL_law_459 : decode cL_law 459 = .ok (.iaload, 1) := by decide +kernel
theorem dL_law_460 : decode cL_law 460 = .ok (.aload_n 0, 1) := by decide +kernel
theorem dL_law_461 : decode cL_law 461 = .ok (.iload_n 3, 1) := by decide +kernel
theorem dL_law_462 : decode cL_law 462 = .ok (.iconst 2, 1) := by decide +kernel
theorem dL_law_463 : decode cL_law 463 = .ok (.iadd, 1) := by decide +kernel
theorem dL_law_464 : decode cL_law 464 = .ok (.iaload, 1) := by decide +kernel
theorem dL_law_465 : decode cL_law 465 = .ok (.invokevirtual 64, 3) := by decide +kernel
theorem dL_law_468 : decode cL_law 468 = .ok (.pop, 1) := by decide +kernel
theorem dL_law_469 : decode cL_law 469 = .ok (.aload_n 2, 1) := by decide +kernel
theorem dL_law_470 : decode cL_law 470 = .ok (.aload_n 0, 1) := by decide +kernel
theorem dL_law_471 : decode cL_law 471 = .ok (.iload_n 3, 1) := by decide +kernel
theorem dL_law_472 : decode cL_law 472 = .ok (.iconst 1, 1) := by decide +kernel
theorem dL_law_473 : decode cL_law 473 = .ok (.iadd, 1) := by decide +kernel
theorem dL_law_474 : decode cL_law 474 = .ok (.iaload, 1) := by decide +kernel
theorem dL_law_475 : decode cL_law 475 = .ok (.aload_n 0, 1) := by decide +kernel
theorem dL_law_476 : decode cL_law 476 = .ok (.iload_n 3, 1) := by decide +kernel
theorem dL_law_477 : decode cL_law 477 = .ok (.iconst 2, 1) := by decide +kernel
theorem dL_law_478 : decode cL_law 478 = .ok (.iadd, 1) := by decide +kernel
theorem dL_law_479 : decode cL_law 479 = .ok (.iaload, 1) := by decide +kernel
theorem dL_law_480 : decode cL_law 480 = .ok (.invokevirtual 67, 3) := by decide +kernel
theorem dL_law_483 : decode cL_law 483 = .ok (.pop, 1) := by decide +kernel
theorem dL_law_484 : decode cL_law 484 = .ok (.goto 454, 3) := by decide +kernel
theorem dL_law_487 : decode cL_law 487 = .ok (.aload_n 1, 1) := by decide +kernel
theorem dL_law_488 : decode cL_law 488 = .ok (.aload_n 0, 1) := by decide +kernel
theorem dL_law_489 : decode cL_law 489 = .ok (.iload_n 3, 1) := by decide +kernel
theorem dL_law_490 : decode cL_law 490 = .ok (.iconst 1, 1) := by decide +kernel
theorem dL_law_491 : decode cL_law 491 = .ok (.iadd, 1) := by decide +kernel
theorem dL_law_492 : decode cL_law 492 = .ok (.iaload, 1) := by decide +kernel
theorem dL_law_493 : decode cL_law 493 = .ok (.aload_n 0, 1) := by decide +kernel
theorem dL_law_494 : decode cL_law 494 = .ok (.iload_n 3, 1) := by decide +kernel
theorem dL_law_495 : decode cL_law 495 = .ok (.iconst 2, 1) := by decide +kernel
theorem dL_law_496 : decode cL_law 496 = .ok (.iadd, 1) := by decide +kernel
theorem dL_law_497 : decode cL_law 497 = .ok (.iaload, 1) := by decide +kernel
theorem dL_law_498 : decode cL_law 498 = .ok (.aload_n 0, 1) := by decide +kernel
theorem dL_law_499 : decode cL_law 499 = .ok (.iload_n 3, 1) := by decide +kernel
theorem dL_law_500 : decode cL_law 500 = .ok (.iconst 3, 1) := by decide +kernel
theorem dL_law_501 : decode cL_law 501 = .ok (.iadd, 1) := by decide +kernel
theorem dL_law_502 : decode cL_law 502 = .ok (.iaload, 1) := by decide +kernel
theorem dL_law_503 : decode cL_law 503 = .ok (.invokevirtual 68, 3) := by decide +kernel
theorem dL_law_506 : decode cL_law 506 = .ok (.pop, 1) := by decide +kernel
theorem dL_law_507 : decode cL_law 507 = .ok (.aload_n 2, 1) := by decide +kernel
theorem dL_law_508 : decode cL_law 508 = .ok (.aload_n 0, 1) := by decide +kernel
theorem dL_law_509 : decode cL_law 509 = .ok (.iload_n 3, 1) := by decide +kernel
theorem dL_law_510 : decode cL_law 510 = .ok (.iconst 1, 1) := by decide +kernel
theorem dL_law_511 : decode cL_law 511 = .ok (.iadd, 1) := by decide +kernel
theorem dL_law_512 : decode cL_law 512 = .ok (.iaload, 1) := by decide +kernel
theorem dL_law_513 : decode cL_law 513 = .ok (.aload_n 0, 1) := by decide +kernel
theorem dL_law_514 : decode cL_law 514 = .ok (.iload_n 3, 1) := by decide +kernel
theorem dL_law_515 : decode cL_law 515 = .ok (.iconst 2, 1) := by decide +kernel
theorem dL_law_516 : decode cL_law 516 = .ok (.iadd, 1) := by decide +kernel
theorem dL_law_517 : decode cL_law 517 = .ok (.iaload, 1) := by decide +kernel
theorem dL_law_518 : decode cL_law 518 = .ok (.aload_n 0, 1) := by decide +kernel
theorem dL_law_519 : decode cL_law 519 = .ok (.iload_n 3, 1) := by decide +kernel
theorem dL_law_520 : decode cL_law 520 = .ok (.iconst 3, 1) := by decide +kernel
theorem dL_law_521 : decode cL_law 521 = .ok (.iadd, 1) := by decide +kernel
theorem dL_law_522 : decode cL_law 522 = .ok (.iaload, 1) := by decide +kernel
theorem dL_law_523 : decode cL_law 523 = .ok (.invokevirtual 72, 3) := by decide +kernel
theorem dL_law_526 : decode cL_law 526 = .ok (.pop, 1) := by decide +kernel
theorem dL_law_527 : decode cL_law 527 = .ok (.goto 411, 3) := by decide +kernel
theorem dL_law_530 : decode cL_law 530 = .ok (.aload_n 1, 1) := by decide +kernel
theorem dL_law_531 : decode cL_law 531 = .ok (.aload_n 0, 1) := by decide +kernel
theorem dL_law_532 : decode cL_law 532 = .ok (.iload_n 3, 1) := by decide +kernel
theorem dL_law_533 : decode cL_law 533 = .ok (.iconst 1, 1) := by decide +kernel
theorem dL_law_534 : decode cL_law 534 = .ok (.iadd, 1) := by decide +kernel
theorem dL_law_535 : decode cL_law 535 = .ok (.iaload, 1) := by decide +kernel
theorem dL_law_536 : decode cL_law 536 = .ok (.invokevirtual 73, 3) := by decide +kernel
theorem dL_law_539 : decode cL_law 539 = .ok (.pop, 1) := by decide +kernel
theorem dL_law_540 : decode cL_law 540 = .ok (.aload_n 2, 1) := by decide +kernel
theorem dL_law_541 : decode cL_law 541 = .ok (.aload_n 0, 1) := by decide +kernel
theorem dL_law_542 : decode cL_law 542 = .ok (.iload_n 3, 1) := by decide +kernel
theorem dL_law_543 : decode cL_law 543 = .ok (.iconst 1, 1) := by decide +kernel
theorem dL_law_544 : decode cL_law 544 = .ok (.iadd, 1) := by decide +kernel
theorem dL_law_545 : decode cL_law 545 = .ok (.iaload, 1) := by decide +kernel
theorem dL_law_546 : decode cL_law 546 = .ok (.invokevirtual 76, 3) := by decide +kernel
theorem dL_law_549 : decode cL_law 549 = .ok (.pop, 1) := by decide +kernel
theorem dL_law_550 : decode cL_law 550 = .ok (.goto 388, 3) := by decide +kernel
theorem dL_law_553 : decode cL_law 553 = .ok (.aload_n 1, 1) := by decide +kernel
theorem dL_law_554 : decode cL_law 554 = .ok (.aload_n 0, 1) := by decide +kernel
theorem dL_law_555 : decode cL_law 555 = .ok (.iload_n 3, 1) := by decide +kernel
theorem dL_law_556 : decode cL_law 556 = .ok (.iconst 1, 1) := by decide +kernel
theorem dL_law_557 : decode cL_law 557 = .ok (.iadd, 1) := by decide +kernel
theorem dL_law_558 : decode cL_law 558 = .ok (.iaload, 1) := by decide +kernel
theorem dL_law_559 : decode cL_law 559 = .ok (.aload_n 0, 1) := by decide +kernel
theorem dL_law_560 : decode cL_law 560 = .ok (.iload_n 3, 1) := by decide +kernel
theorem dL_law_561 : decode cL_law 561 = .ok (.iconst 2, 1) := by decide +kernel
theorem dL_law_562 : decode cL_law 562 = .ok (.iadd, 1) := by decide +kernel
theorem dL_law_563 : decode cL_law 563 = .ok (.iaload, 1) := by decide +kernel
theorem dL_law_564 : decode cL_law 564 = .ok (.aload_n 0, 1) := by decide +kernel
theorem dL_law_565 : decode cL_law 565 = .ok (.iload_n 3, 1) := by decide +kernel
theorem dL_law_566 : decode cL_law 566 = .ok (.iconst 3, 1) := by decide +kernel
theorem dL_law_567 : decode cL_law 567 = .ok (.iadd, 1) := by decide +kernel
theorem dL_law_568 : decode cL_law 568 = .ok (.iaload, 1) := by decide +kernel
theorem dL_law_569 : decode cL_law 569 = .ok (.invokevirtual 77, 3) := by decide +kernel
theorem dL_law_572 : decode cL_law 572 = .ok (.pop, 1) := by decide +kernel
theorem dL_law_573 : decode cL_law 573 = .ok (.aload_n 2, 1) := by decide +kernel
theorem dL_law_574 : decode cL_law 574 = .ok (.aload_n 0, 1) := by decide +kernel
theorem dL_law_575 : decode cL_law 575 = .ok (.iload_n 3, 1) := by decide +kernel
theorem dL_law_576 : decode cL_law 576 = .ok (.iconst 1, 1) := by decide +kernel
theorem dL_law_577 : decode cL_law 577 = .ok (.iadd, 1) := by decide +kernel
theorem dL_law_578 : decode cL_law 578 = .ok (.iaload, 1) := by decide +kernel
theorem dL_law_579 : decode cL_law 579 = .ok (.aload_n 0, 1) := by decide +kernel
theorem dL_law_580 : decode cL_law 580 = .ok (.iload_n 3, 1) := by decide +kernel
theorem dL_law_581 : decode cL_law 581 = .ok (.iconst 2, 1) := by decide +kernel
theorem dL_law_582 : decode cL_law 582 = .ok (.iadd, 1) := by decide +kernel
theorem dL_law_583 : decode cL_law 583 = .ok (.iaload, 1) := by decide +kernel
theorem dL_law_584 : decode cL_law 584 = .ok (.aload_n 0, 1) := by decide +kernel
theorem dL_law_585 : decode cL_law 585 = .ok (.iload_n 3, 1) := by decide +kernel
theorem dL_law_586 : decode cL_law 586 = .ok (.iconst 3, 1) := by decide +kernel
theorem dL_law_587 : decode cL_law 587 = .ok (.iadd, 1) := by decide +kernel
theorem dL_law_588 : decode cL_law 588 = .ok (.iaload, 1) := by decide +kernel
theorem dL_law_589 : decode cL_law 589 = .ok (.invokevirtual 80, 3) := by decide +kernel
theorem dL_law_592 : decode cL_law 592 = .ok (.pop, 1) := by decide +kernel
theorem dL_law_593 : decode cL_law 593 = .ok (.goto 345, 3) := by decide +kernel
theorem dL_law_596 : decode cL_law 596 = .ok (.aload_n 1, 1) := by decide +kernel
theorem dL_law_597 : decode cL_law 597 = .ok (.aload_n 0, 1) := by decide +kernel
theorem dL_law_598 : decode cL_law 598 = .ok (.iload_n 3, 1) := by decide +kernel
theorem dL_law_599 : decode cL_law 599 = .ok (.iconst 1, 1) := by decide +kernel
theorem dL_law_600 : decode cL_law 600 = .ok (.iadd, 1) := by decide +kernel
theorem dL_law_601 : decode cL_law 601 = .ok (.iaload, 1) := by decide +kernel
theorem dL_law_602 : decode cL_law 602 = .ok (.invokevirtual 81, 3) := by decide +kernel
theorem dL_law_605 : decode cL_law 605 = .ok (.pop, 1) := by decide +kernel
theorem dL_law_606 : decode cL_law 606 = .ok (.aload_n 2, 1) := by decide +kernel
theorem dL_law_607 : decode cL_law 607 = .ok (.aload_n 0, 1) := by decide +kernel
theorem dL_law_608 : decode cL_law 608 = .ok (.iload_n 3, 1) := by decide +kernel
theorem dL_law_609 : decode cL_law 609 = .ok (.iconst 1, 1) := by decide +kernel
theorem dL_law_610 : decode cL_law 610 = .ok (.iadd, 1) := by decide +kernel
theorem dL_law_611 : decode cL_law 611 = .ok (.iaload, 1) := by decide +kernel
theorem dL_law_612 : decode cL_law 612 = .ok (.invokevirtual 84, 3) := by decide +kernel
theorem dL_law_615 : decode cL_law 615 = .ok (.pop, 1) := by decide +kernel
theorem dL_law_616 : decode cL_law 616 = .ok (.goto 322, 3) := by decide +kernel
theorem dL_law_619 : decode cL_law 619 = .ok (.aload_n 1, 1) := by decide +kernel
theorem dL_law_620 : decode cL_law 620 = .ok (.aload_n 0, 1) := by decide +kernel
theorem dL_law_621 : decode cL_law 621 = .ok (.iload_n 3, 1) := by decide +kernel
theorem dL_law_622 : decode cL_law 622 = .ok (.iconst 1, 1) := by decide +kernel
theorem dL_law_623 : decode cL_law 623 = .ok (.iadd, 1) := by decide +kernel
theorem dL_law_624 : decode cL_law 624 = .ok (.iaload, 1) := by decide +kernel
theorem dL_law_625 : decode cL_law 625 = .ok (.invokevirtual 85, 3) := by decide +kernel
theorem dL_law_628 : decode cL_law 628 = .ok (.pop, 1) := by decide +kernel
theorem dL_law_629 : decode cL_law 629 = .ok (.aload_n 2, 1) := by decide +kernel
theorem dL_law_630 : decode cL_law 630 = .ok (.aload_n 0, 1) := by decide +kernel
theorem dL_law_631 : decode cL_law 631 = .ok (.iload_n 3, 1) := by decide +kernel
theorem dL_law_632 : decode cL_law 632 = .ok (.iconst 1, 1) := by decide +kernel
theorem dL_law_633 : decode cL_law 633 = .ok (.iadd, 1) := by decide +kernel
theorem dL_law_634 : decode cL_law 634 = .ok (.iaload, 1) := by decide +kernel
theorem dL_law_635 : decode cL_law 635 = .ok (.invokevirtual 88, 3) := by decide +kernel
theorem dL_law_638 : decode cL_law 638 = .ok (.pop, 1) := by decide +kernel
theorem dL_law_639 : decode cL_law 639 = .ok (.goto 299, 3) := by decide +kernel
theorem dL_law_642 : decode cL_law 642 = .ok (.aload_n 1, 1) := by decide +kernel
theorem dL_law_643 : decode cL_law 643 = .ok (.aload_n 0, 1) := by decide +kernel
theorem dL_law_644 : decode cL_law 644 = .ok (.iload_n 3, 1) := by decide +kernel
theorem dL_law_645 : decode cL_law 645 = .ok (.iconst 1, 1) := by decide +kernel
theorem dL_law_646 : decode cL_law 646 = .ok (.iadd, 1) := by decide +kernel
theorem dL_law_647 : decode cL_law 647 = .ok (.iaload, 1) := by decide +kernel
theorem dL_law_648 : decode cL_law 648 = .ok (.invokevirtual 89, 3) := by decide +kernel
theorem dL_law_651 : decode cL_law 651 = .ok (.pop, 1) := by decide +kernel
theorem dL_law_652 : decode cL_law 652 = .ok (.aload_n 2, 1) := by decide +kernel
theorem dL_law_653 : decode cL_law 653 = .ok (.aload_n 0, 1) := by decide +kernel
theorem dL_law_654 : decode cL_law 654 = .ok (.iload_n 3, 1) := by decide +kernel
theorem dL_law_655 : decode cL_law 655 = .ok (.iconst 1, 1) := by decide +kernel
theorem dL_law_656 : decode cL_law 656 = .ok (.iadd, 1) := by decide +kernel
theorem dL_law_657 : decode cL_law 657 = .ok (.iaload, 1) := by decide +kernel
theorem dL_law_658 : decode cL_law 658 = .ok (.invokevirtual 92, 3) := by decide +kernel
theorem dL_law_661 : decode cL_law 661 = .ok (.pop, 1) := by decide +kernel
theorem dL_law_662 : decode cL_law 662 = .ok (.goto 276, 3) := by decide +kernel
theorem dL_law_665 : decode cL_law 665 = .ok (.aload_n 1, 1) := by decide +kernel
theorem dL_law_666 : decode cL_law 666 = .ok (.aload_n 0, 1) := by decide +kernel
theorem dL_law_667 : decode cL_law 667 = .ok (.iload_n 3, 1) := by decide +kernel
theorem dL_law_668 : decode cL_law 668 = .ok (.iconst 1, 1) := by decide +kernel
theorem dL_law_669 : decode cL_law 669 = .ok (.iadd, 1) := by decide +kernel
theorem dL_law_670 : decode cL_law 670 = .ok (.iaload, 1) := by decide +kernel
theorem dL_law_671 : decode cL_law 671 = .ok (.aload_n 0, 1) := by decide +kernel
theorem dL_law_672 : decode cL_law 672 = .ok (.iload_n 3, 1) := by decide +kernel
theorem dL_law_673 : decode cL_law 673 = .ok (.iconst 2, 1) := by decide +kernel
theorem dL_law_674 : decode cL_law 674 = .ok (.iadd, 1) := by decide +kernel
theorem dL_law_675 : decode cL_law 675 = .ok (.iaload, 1) := by decide +kernel
theorem dL_law_676 : decode cL_law 676 = .ok (.invokevirtual 93, 3) := by decide +kernel
theorem dL_law_679 : decode cL_law 679 = .ok (.pop, 1) := by decide +kernel
theorem dL_law_680 : decode cL_law 680 = .ok (.aload_n 2, 1) := by decide +kernel
theorem dL_law_681 : decode cL_law 681 = .ok (.aload_n 0, 1) := by decide +kernel
theorem dL_law_682 : decode cL_law 682 = .ok (.iload_n 3, 1) := by decide +kernel
theorem dL_law_683 : decode cL_law 683 = .ok (.iconst 1, 1) := by decide +kernel
theorem dL_law_684 : decode cL_law 684 = .ok (.iadd, 1) := by decide +kernel
theorem dL_law_685 : decode cL_law 685 = .ok (.iaload, 1) := by decide +kernel
theorem dL_law_686 : decode cL_law 686 = .ok (.aload_n 0, 1) := by decide +kernel
theorem dL_law_687 : decode cL_law 687 = .ok (.iload_n 3, 1) := by decide +kernel
theorem dL_law_688 : decode cL_law 688 = .ok (.iconst 2, 1) := by decide +kernel
theorem dL_law_689 : decode cL_law 689 = .ok (.iadd, 1) := by decide +kernel
theorem dL_law_690 : decode cL_law 690 = .ok (.iaload, 1) := by decide +kernel
theorem dL_law_691 : decode cL_law 691 = .ok (.invokevirtual 96, 3) := by decide +kernel
theorem dL_law_694 : decode cL_law 694 = .ok (.pop, 1) := by decide +kernel
theorem dL_law_695 : decode cL_law 695 = .ok (.goto 243, 3) := by decide +kernel
theorem dL_law_698 : decode cL_law 698 = .ok (.aload_n 1, 1) := by decide +kernel
theorem dL_law_699 : decode cL_law 699 = .ok (.invokevirtual 97, 3) := by decide +kernel
theorem dL_law_702 : decode cL_law 702 = .ok (.pop, 1) := by decide +kernel
theorem dL_law_703 : decode cL_law 703 = .ok (.aload_n 2, 1) := by decide +kernel
theorem dL_law_704 : decode cL_law 704 = .ok (.invokevirtual 100, 3) := by decide +kernel
theorem dL_law_707 : decode cL_law 707 = .ok (.pop, 1) := by decide +kernel
theorem dL_law_708 : decode cL_law 708 = .ok (.goto 230, 3) := by decide +kernel
theorem dL_law_711 : decode cL_law 711 = .ok (.aload_n 1, 1) := by decide +kernel
theorem dL_law_712 : decode cL_law 712 = .ok (.aload_n 0, 1) := by decide +kernel
theorem dL_law_713 : decode cL_law 713 = .ok (.iload_n 3, 1) := by decide +kernel
theorem dL_law_714 : decode cL_law 714 = .ok (.iconst 1, 1) := by decide +kernel
theorem dL_law_715 : decode cL_law 715 = .ok (.iadd, 1) := by decide +kernel
theorem dL_law_716 : decode cL_law 716 = .ok (.iaload, 1) := by decide +kernel
theorem dL_law_717 : decode cL_law 717 = .ok (.aload_n 0, 1) := by decide +kernel
theorem dL_law_718 : decode cL_law 718 = .ok (.iload_n 3, 1) := by decide +kernel
theorem dL_law_719 : decode cL_law 719 = .ok (.iconst 2, 1) := by decide +kernel
theorem dL_law_720 : decode cL_law 720 = .ok (.iadd, 1) := by decide +kernel
theorem dL_law_721 : decode cL_law 721 = .ok (.iaload, 1) := by decide +kernel
theorem dL_law_722 : decode cL_law 722 = .ok (.invokevirtual 101, 3) := by decide +kernel
theorem dL_law_725 : decode cL_law 725 = .ok (.pop, 1) := by decide +kernel
theorem dL_law_726 : decode cL_law 726 = .ok (.aload_n 2, 1) := by decide +kernel
theorem dL_law_727 : decode cL_law 727 = .ok (.aload_n 0, 1) := by decide +kernel
theorem dL_law_728 : decode cL_law 728 = .ok (.iload_n 3, 1) := by decide +kernel
theorem dL_law_729 : decode cL_law 729 = .ok (.iconst 1, 1) := by decide +kernel
theorem dL_law_730 : decode cL_law 730 = .ok (.iadd, 1) := by decide +kernel
theorem dL_law_731 : decode cL_law 731 = .ok (.iaload, 1) := by decide +kernel
theorem dL_law_732 : decode cL_law 732 = .ok (.aload_n 0, 1) := by decide +kernel
theorem dL_law_733 : decode cL_law 733 = .ok (.iload_n 3, 1) := by decide +kernel
theorem dL_law_734 : decode cL_law 734 = .ok (.iconst 2, 1) := by decide +kernel
theorem dL_law_735 : decode cL_law 735 = .ok (.iadd, 1) := by decide +kernel
theorem dL_law_736 : decode cL_law 736 = .ok (.iaload, 1) := by decide +kernel
theorem dL_law_737 : decode cL_law 737 = .ok (.invokevirtual 104, 3) := by decide +kernel
theorem dL_law_740 : decode cL_law 740 = .ok (.pop, 1) := by decide +kernel
theorem dL_law_741 : decode cL_law 741 = .ok (.goto 197, 3) := by decide +kernel
theorem dL_law_744 : decode cL_law 744 = .ok (.aload_n 1, 1) := by decide +kernel
theorem dL_law_745 : decode cL_law 745 = .ok (.invokevirtual 105, 3) := by decide +kernel
theorem dL_law_748 : decode cL_law 748 = .ok (.pop, 1) := by decide +kernel
theorem dL_law_749 : decode cL_law 749 = .ok (.aload_n 2, 1) := by decide +kernel
theorem dL_law_750 : decode cL_law 750 = .ok (.invokevirtual 108, 3) := by decide +kernel
theorem dL_law_753 : decode cL_law 753 = .ok (.pop, 1) := by decide +kernel
theorem dL_law_754 : decode cL_law 754 = .ok (.goto 184, 3) := by decide +kernel
theorem dL_law_757 : decode cL_law 757 = .ok (.aload_n 1, 1) := by decide +kernel
theorem dL_law_758 : decode cL_law 758 = .ok (.aload_n 0, 1) := by decide +kernel
theorem dL_law_759 : decode cL_law 759 = .ok (.iload_n 3, 1) := by decide +kernel
theorem dL_law_760 : decode cL_law 760 = .ok (.iconst 1, 1) := by decide +kernel
theorem dL_law_761 : decode cL_law 761 = .ok (.iadd, 1) := by decide +kernel
theorem dL_law_762 : decode cL_law 762 = .ok (.iaload, 1) := by decide +kernel
theorem dL_law_763 : decode cL_law 763 = .ok (.invokevirtual 109, 3) := by decide +kernel
theorem dL_law_766 : decode cL_law 766 = .ok (.pop, 1) := by decide +kernel
theorem dL_law_767 : decode cL_law 767 = .ok (.aload_n 2, 1) := by decide +kernel
theorem dL_law_768 : decode cL_law 768 = .ok (.aload_n 0, 1) := by decide +kernel
theorem dL_law_769 : decode cL_law 769 = .ok (.iload_n 3, 1) := by decide +kernel
theorem dL_law_770 : decode cL_law 770 = .ok (.iconst 1, 1) := by decide +kernel
theorem dL_law_771 : decode cL_law 771 = .ok (.iadd, 1) := by decide +kernel
theorem dL_law_772 : decode cL_law 772 = .ok (.iaload, 1) := by decide +kernel
theorem dL_law_773 : decode cL_law 773 = .ok (.invokevirtual 112, 3) := by decide +kernel
theorem dL_law_776 : decode cL_law 776 = .ok (.pop, 1) := by decide +kernel
theorem dL_law_777 : decode cL_law 777 = .ok (.goto 161, 3) := by decide +kernel
theorem dL_law_780 : decode cL_law 780 = .ok (.aload_n 1, 1) := by decide +kernel
theorem dL_law_781 : decode cL_law 781 = .ok (.aload_n 0, 1) := by decide +kernel
theorem dL_law_782 : decode cL_law 782 = .ok (.iload_n 3, 1) := by decide +kernel
theorem dL_law_783 : decode cL_law 783 = .ok (.iconst 1, 1) := by decide +kernel
theorem dL_law_784 : decode cL_law 784 = .ok (.iadd, 1) := by decide +kernel
theorem dL_law_785 : decode cL_law 785 = .ok (.iaload, 1) := by decide +kernel
theorem dL_law_786 : decode cL_law 786 = .ok (.invokevirtual 113, 3) := by decide +kernel
theorem dL_law_789 : decode cL_law 789 = .ok (.pop, 1) := by decide +kernel
theorem dL_law_790 : decode cL_law 790 = .ok (.aload_n 2, 1) := by decide +kernel
theorem dL_law_791 : decode cL_law 791 = .ok (.aload_n 0, 1) := by decide +kernel
theorem dL_law_792 : decode cL_law 792 = .ok (.iload_n 3, 1) := by decide +kernel
theorem dL_law_793 : decode cL_law 793 = .ok (.iconst 1, 1) := by decide +kernel
theorem dL_law_794 : decode cL_law 794 = .ok (.iadd, 1) := by decide +kernel
theorem dL_law_795 : decode cL_law 795 = .ok (.iaload, 1) := by decide +kernel
theorem dL_law_796 : decode cL_law 796 = .ok (.invokevirtual 116, 3) := by decide +kernel
theorem dL_law_799 : decode cL_law 799 = .ok (.pop, 1) := by decide +kernel
theorem dL_law_800 : decode cL_law 800 = .ok (.goto 138, 3) := by decide +kernel
theorem dL_law_803 : decode cL_law 803 = .ok (.aload_n 1, 1) := by decide +kernel
theorem dL_law_804 : decode cL_law 804 = .ok (.aload_n 0, 1) := by decide +kernel
theorem dL_law_805 : decode cL_law 805 = .ok (.iload_n 3, 1) := by decide +kernel
theorem dL_law_806 : decode cL_law 806 = .ok (.iconst 1, 1) := by decide +kernel
theorem dL_law_807 : decode cL_law 807 = .ok (.iadd, 1) := by decide +kernel
theorem dL_law_808 : decode cL_law 808 = .ok (.iaload, 1) := by decide +kernel
theorem dL_law_809 : decode cL_law 809 = .ok (.aload_n 0, 1) := by decide +kernel
theorem dL_law_810 : decode cL_law 810 = .ok (.iload_n 3, 1) := by decide +kernel
theorem dL_law_811 : decode cL_law 811 = .ok (.iconst 2, 1) := by decide +kernel
theorem dL_law_812 : decode cL_law 812 = .ok (.iadd, 1) := by decide +kernel
theorem dL_law_813 : decode cL_law 813 = .ok (.iaload, 1) := by decide +kernel
theorem dL_law_814 : decode cL_law 814 = .ok (.aload_n 0, 1) := by decide +kernel
theorem dL_law_815 : decode cL_law 815 = .ok (.iload_n 3, 1) := by decide +kernel
theorem dL_law_816 : decode cL_law 816 = .ok (.iconst 3, 1) := by decide +kernel
theorem dL_law_817 : decode cL_law 817 = .ok (.iadd, 1) := by decide +kernel
theorem dL_law_818 : decode cL_law 818 = .ok (.iaload, 1) := by decide +kernel
theorem dL_law_819 : decode cL_law 819 = .ok (.invokevirtual 117, 3) := by decide +kernel
theorem dL_law_822 : decode cL_law 822 = .ok (.pop, 1) := by decide +kernel
theorem dL_law_823 : decode cL_law 823 = .ok (.aload_n 2, 1) := by decide +kernel
theorem dL_law_824 : decode cL_law 824 = .ok (.aload_n 0, 1) := by decide +kernel
theorem dL_law_825 : decode cL_law 825 = .ok (.iload_n 3, 1) := by decide +kernel
theorem dL_law_826 : decode cL_law 826 = .ok (.iconst 1, 1) := by decide +kernel
theorem dL_law_827 : decode cL_law 827 = .ok (.iadd, 1) := by decide +kernel
theorem dL_law_828 : decode cL_law 828 = .ok (.iaload, 1) := by decide +kernel
theorem dL_law_829 : decode cL_law 829 = .ok (.aload_n 0, 1) := by decide +kernel
theorem dL_law_830 : decode cL_law 830 = .ok (.iload_n 3, 1) := by decide +kernel
theorem dL_law_831 : decode cL_law 831 = .ok (.iconst 2, 1) := by decide +kernel
theorem dL_law_832 : decode cL_law 832 = .ok (.iadd, 1) := by decide +kernel
theorem dL_law_833 : decode cL_law 833 = .ok (.iaload, 1) := by decide +kernel
theorem dL_law_834 : decode cL_law 834 = .ok (.aload_n 0, 1) := by decide +kernel
theorem dL_law_835 : decode cL_law 835 = .ok (.iload_n 3, 1) := by decide +kernel
theorem dL_law_836 : decode cL_law 836 = .ok (.iconst 3, 1) := by decide +kernel
theorem dL_law_837 : decode cL_law 837 = .ok (.iadd, 1) := by decide +kernel
theorem dL_law_838 : decode cL_law 838 = .ok (.iaload, 1) := by decide +kernel
theorem dL_law_839 : decode cL_law 839 = .ok (.invokevirtual 120, 3) := by decide +kernel
theorem dL_law_842 : decode cL_law 842 = .ok (.pop, 1) := by decide +kernel
theorem dL_law_843 : decode cL_law 843 = .ok (.goto 95, 3) := by decide +kernel
theorem dL_law_846 : decode cL_law 846 = .ok (.aload_n 1, 1) := by decide +kernel
theorem dL_law_847 : decode cL_law 847 = .ok (.aload_n 0, 1) := by decide +kernel
theorem dL_law_848 : decode cL_law 848 = .ok (.iload_n 3, 1) := by decide +kernel
theorem dL_law_849 : decode cL_law 849 = .ok (.iconst 1, 1) := by decide +kernel
theorem dL_law_850 : decode cL_law 850 = .ok (.iadd, 1) := by decide +kernel
theorem dL_law_851 : decode cL_law 851 = .ok (.iaload, 1) := by decide +kernel
theorem dL_law_852 : decode cL_law 852 = .ok (.aload_n 0, 1) := by decide +kernel
theorem dL_law_853 : decode cL_law 853 = .ok (.iload_n 3, 1) := by decide +kernel
theorem dL_law_854 : decode cL_law 854 = .ok (.iconst 2, 1) := by decide +kernel
theorem dL_law_855 : decode cL_law 855 = .ok (.iadd, 1) := by decide +kernel
theorem dL_law_856 : decode cL_law 856 = .ok (.iaload, 1) := by decide +kernel
theorem dL_law_857 : decode cL_law 857 = .ok (.aload_n 0, 1) := by decide +kernel
theorem dL_law_858 : decode cL_law 858 = .ok (.iload_n 3, 1) := by decide +kernel
theorem dL_law_859 : decode cL_law 859 = .ok (.iconst 3, 1) := by decide +kernel
theorem dL_law_860 : decode cL_law 860 = .ok (.iadd, 1) := by decide +kernel
theorem dL_law_861 : decode cL_law 861 = .ok (.iaload, 1) := by decide +kernel
theorem dL_law_862 : decode cL_law 862 = .ok (.invokevirtual 121, 3) := by decide +kernel
theorem dL_law_865 : decode cL_law 865 = .ok (.pop, 1) := by decide +kernel
theorem dL_law_866 : decode cL_law 866 = .ok (.aload_n 2, 1) := by decide +kernel
theorem dL_law_867 : decode cL_law 867 = .ok (.aload_n 0, 1) := by decide +kernel
theorem dL_law_868 : decode cL_law 868 = .ok (.iload_n 3, 1) := by decide +kernel
theorem dL_law_869 : decode cL_law 869 = .ok (.iconst 1, 1) := by decide +kernel
theorem dL_law_870 : decode cL_law 870 = .ok (.iadd, 1) := by decide +kernel
theorem dL_law_871 : decode cL_law 871 = .ok (.iaload, 1) := by decide +kernel
theorem dL_law_872 : decode cL_law 872 = .ok (.aload_n 0, 1) := by decide +kernel
theorem dL_law_873 : decode cL_law 873 = .ok (.iload_n 3, 1) := by decide +kernel
theorem dL_law_874 : decode cL_law 874 = .ok (.iconst 2, 1) := by decide +kernel
theorem dL_law_875 : decode cL_law 875 = .ok (.iadd, 1) := by decide +kernel
theorem dL_law_876 : decode cL_law 876 = .ok (.iaload, 1) := by decide +kernel
theorem dL_law_877 : decode cL_law 877 = .ok (.aload_n 0, 1) := by decide +kernel
theorem dL_law_878 : decode cL_law 878 = .ok (.iload_n 3, 1) := by decide +kernel
theorem dL_law_879 : decode cL_law 879 = .ok (.iconst 3, 1) := by decide +kernel
theorem dL_law_880 : decode cL_law 880 = .ok (.iadd, 1) := by decide +kernel
theorem dL_law_881 : decode cL_law 881 = .ok (.iaload, 1) := by decide +kernel
theorem dL_law_882 : decode cL_law 882 = .ok (.invokevirtual 124, 3) := by decide +kernel
theorem dL_law_885 : decode cL_law 885 = .ok (.pop, 1) := by decide +kernel
theorem dL_law_886 : decode cL_law 886 = .ok (.goto 52, 3) := by decide +kernel
theorem dL_law_889 : decode cL_law 889 = .ok (.aload_n 1, 1) := by decide +kernel
theorem dL_law_890 : decode cL_law 890 = .ok (.invokevirtual 125, 3) := by decide +kernel
theorem dL_law_893 : decode cL_law 893 = .ok (.pop, 1) := by decide +kernel
theorem dL_law_894 : decode cL_law 894 = .ok (.aload_n 2, 1) := by decide +kernel
theorem dL_law_895 : decode cL_law 895 = .ok (.invokevirtual 128, 3) := by decide +kernel
theorem dL_law_898 : decode cL_law 898 = .ok (.pop, 1) := by decide +kernel
theorem dL_law_899 : decode cL_law 899 = .ok (.goto 39, 3) := by decide +kernel
theorem dL_law_902 : decode cL_law 902 = .ok (.aload_n 1, 1) := by decide +kernel
theorem dL_law_903 : decode cL_law 903 = .ok (.invokevirtual 129, 3) := by decide +kernel
theorem dL_law_906 : decode cL_law 906 = .ok (.pop, 1) := by decide +kernel
theorem dL_law_907 : decode cL_law 907 = .ok (.aload_n 2, 1) := by decide +kernel
theorem dL_law_908 : decode cL_law 908 = .ok (.invokevirtual 132, 3) := by decide +kernel
theorem dL_law_911 : decode cL_law 911 = .ok (.pop, 1) := by decide +kernel
theorem dL_law_912 : decode cL_law 912 = .ok (.goto 26, 3) := by decide +kernel
theorem dL_law_915 : decode cL_law 915 = .ok (.aload_n 1, 1) := by decide +kernel
theorem dL_law_916 : decode cL_law 916 = .ok (.aload_n 0, 1) := by decide +kernel
theorem dL_law_917 : decode cL_law 917 = .ok (.iload_n 3, 1) := by decide +kernel
theorem dL_law_918 : decode cL_law 918 = .ok (.iconst 1, 1) := by decide +kernel
theorem dL_law_919 : decode cL_law 919 = .ok (.iadd, 1) := by decide +kernel
theorem dL_law_920 : decode cL_law 920 = .ok (.iaload, 1) := by decide +kernel
theorem dL_law_921 : decode cL_law 921 = .ok (.invokevirtual 133, 3) := by decide +kernel
theorem dL_law_924 : decode cL_law 924 = .ok (.aload_n 2, 1) := by decide +kernel
theorem dL_law_925 : decode cL_law 925 = .ok (.aload_n 0, 1) := by decide +kernel
theorem dL_law_926 : decode cL_law 926 = .ok (.iload_n 3, 1) := by decide +kernel
theorem dL_law_927 : decode cL_law 927 = .ok (.iconst 1, 1) := by decide +kernel
theorem dL_law_928 : decode cL_law 928 = .ok (.iadd, 1) := by decide +kernel
theorem dL_law_929 : decode cL_law 929 = .ok (.iaload, 1) := by decide +kernel
theorem dL_law_930 : decode cL_law 930 = .ok (.invokevirtual 136, 3) := by decide +kernel
theorem dL_law_933 : decode cL_law 933 = .ok (.if_icmp .eq 5, 3) := by decide +kernel
theorem dL_law_936 : decode cL_law 936 = .ok (.iconst 0, 1) := by decide +kernel
theorem dL_law_937 : decode cL_law 937 = .ok (.ireturn, 1) := by decide +kernel
theorem dL_law_938 : decode cL_law 938 = .ok (.iinc 3 4, 3) := by decide +kernel
theorem dL_law_941 : decode cL_law 941 = .ok (.goto (-923), 3) := by decide +kernel
theorem dL_law_944 : decode cL_law 944 = .ok (.iconst 1, 1) := by decide +kernel
theorem dL_law_945 : decode cL_law 945 = .ok (.ireturn, 1) := by decide +kernel
