theorem dX9_becomeDug_83 : decode cX9_becomeDug 83 = .ok (.aload_n 1, 1) := by decide +kernel
theorem dX9_becomeDug_84 : decode cX9_becomeDug 84 = .ok (.getfield 24, 3) := by decide +kernel
theorem dX9_becomeDug_87 : decode cX9_becomeDug 87 = .ok (.if_icmp .gt 47, 3) := by decide +kernel
theorem dX9_becomeDug_90 : decode cX9_becomeDug 90 = .ok (.iload 6, 2) := by decide +kernel
theorem dX9_becomeDug_92 : decode cX9_becomeDug 92 = .ok (.iload_n 2, 1) := by decide +kernel
theorem dX9_becomeDug_93 : decode cX9_becomeDug 93 = .ok (.if_icmp .ne 24, 3) := by decide +kernel
theorem dX9_becomeDug_96 : decode cX9_becomeDug 96 = .ok (.aload_n 0, 1) := by decide +kernel
theorem dX9_becomeDug_97 : decode cX9_becomeDug 97 = .ok (.iload_n 3, 1) := by decide +kernel
theorem dX9_becomeDug_98 : decode cX9_becomeDug 98 = .ok (.invokevirtual 56, 3) := by decide +kernel
theorem dX9_becomeDug_101 : decode cX9_becomeDug 101 = .ok (.aload_n 0, 1) := by decide +kernel
theorem dX9_becomeDug_102 : decode cX9_becomeDug 102 = .ok (.aload_n 1, 1) := by decide +kernel
theorem dX9_becomeDug_103 : decode cX9_becomeDug 103 = .ok (.getfield 18, 3) := by decide +kernel
theorem dX9_becomeDug_106 : decode cX9_becomeDug 106 = .ok (.iload 6, 2) := by decide +kernel
theorem dX9_becomeDug_108 : decode cX9_becomeDug 108 = .ok (.iaload, 1) := by decide +kernel
theorem dX9_becomeDug_109 : decode cX9_becomeDug 109 = .ok (.iload_n 3, 1) := by decide +kernel
theorem dX9_becomeDug_110 : decode cX9_becomeDug 110 = .ok (.isub, 1) := by decide +kernel
theorem dX9_becomeDug_111 : decode cX9_becomeDug 111 = .ok (.invokevirtual 56, 3) := by decide +kernel
theorem dX9_becomeDug_114 : decode cX9_becomeDug 114 = .ok (.goto 14, 3) := by decide +kernel
theorem dX9_becomeDug_117 : decode cX9_becomeDug 117 = .ok (.aload_n 0, 1) := by decide +kernel
theorem dX9_becomeDug_118 : decode cX9_becomeDug 118 = .ok (.aload_n 1, 1) := by decide +kernel
theorem dX9_becomeDug_119 : decode cX9_becomeDug 119 = .ok (.getfield 18, 3) := by decide +kernel
theorem dX9_becomeDug_122 : decode cX9_becomeDug 122 = .ok (.iload 6, 2) := by decide +kernel
theorem dX9_becomeDug_124 : decode cX9_becomeDug 124 = .ok (.iaload, 1) := by decide +kernel
theorem dX9_becomeDug_125 : decode cX9_becomeDug 125 = .ok (.invokevirtual 56, 3) := by decide +kernel
theorem dX9_becomeDug_128 : decode cX9_becomeDug 128 = .ok (.iinc 6 1, 3) := by decide +kernel
theorem dX9_becomeDug_131 : decode cX9_becomeDug 131 = .ok (.goto (-50), 3) := by decide +kernel
theorem dX9_becomeDug_134 : decode cX9_becomeDug 134 = .ok (.aload_n 0, 1) := by decide +kernel
theorem dX9_becomeDug_135 : decode cX9_becomeDug 135 = .ok (.aload_n 1, 1) := by decide +kernel
theorem dX9_becomeDug_136 : decode cX9_becomeDug 136 = .ok (.getfield 31, 3) := by decide +kernel
theorem dX9_becomeDug_139 : decode cX9_becomeDug 139 = .ok (.putfield 31, 3) := by decide +kernel
theorem dX9_becomeDug_142 : decode cX9_becomeDug 142 = .ok (.aload_n 0, 1) := by decide +kernel
theorem dX9_becomeDug_143 : decode cX9_becomeDug 143 = .ok (.aload_n 1, 1) := by decide +kernel
theorem dX9_becomeDug_144 : decode cX9_becomeDug 144 = .ok (.getfield 34, 3) := by decide +kernel
theorem dX9_becomeDug_147 : decode cX9_becomeDug 147 = .ok (.putfield 34, 3) := by decide +kernel
theorem dX9_becomeDug_150 : decode cX9_becomeDug 150 = .ok (.aload_n 0, 1) := by decide +kernel
theorem dX9_becomeDug_151 : decode cX9_becomeDug 151 = .ok (.aload_n 1, 1) := by decide +kernel
theorem dX9_becomeDug_152 : decode cX9_becomeDug 152 = .ok (.getfield 37, 3) := by decide +kernel
theorem dX9_becomeDug_155 : decode cX9_becomeDug 155 = .ok (.putfield 37, 3) := by decide +kernel
theorem dX9_becomeDug_158 : decode cX9_becomeDug 158 = .ok (.aload_n 0, 1) := by decide +kernel
theorem dX9_becomeDug_159 : decode cX9_becomeDug 159 = .ok (.aload_n 1, 1) := by decide +kernel
theorem dX9_becomeDug_160 : decode cX9_becomeDug 160 = .ok (.getfield 21, 3) := by decide +kernel
theorem dX9_becomeDug_163 : decode cX9_becomeDug 163 = .ok (.putfield 21, 3) := by decide +kernel
theorem dX9_becomeDug_166 : decode cX9_becomeDug 166 = .ok (.return_, 1) := by decide +kernel
theorem dX10_init_0 : decode cX10_init 0 = .ok (.aload_n 0, 1) := by decide +kernel
theorem dX10_init_1 : decode cX10_init 1 = .ok (.invokespecial 3, 3) := by decide +kernel
theorem dX10_init_4 : decode cX10_init 4 = .ok (.aload_n 0, 1) := by decide +kernel
theorem dX10_init_5 : decode cX10_init 5 = .ok (.iconst 5, 1) := by decide +kernel
theorem dX10_init_6 : decode cX10_init 6 = .ok (.newarray .int, 2) := by decide +kernel
theorem dX10_init_8 : decode cX10_init 8 = .ok (.putfield 9, 3) := by decide +kernel
theorem dX10_init_11 : decode cX10_init 11 = .ok (.aload_n 0, 1) := by decide +kernel
theorem dX10_init_12 : decode cX10_init 12 = .ok (.iconst 5, 1) := by decide +kernel
theorem dX10_init_13 : decode cX10_init 13 = .ok (.newarray .int, 2) := by decide +kernel
theorem dX10_init_15 : decode cX10_init 15 = .ok (.putfield 15, 3) := by decide +kernel
theorem dX10_init_18 : decode cX10_init 18 = .ok (.aload_n 0, 1) := by decide +kernel
theorem dX10_init_19 : decode cX10_init 19 = .ok (.iconst 5, 1) := by decide +kernel
theorem dX10_init_20 : decode cX10_init 20 = .ok (.newarray .int, 2) := by decide +kernel
theorem dX10_init_22 : decode cX10_init 22 = .ok (.putfield 18, 3) := by decide +kernel
theorem dX10_init_25 : decode cX10_init 25 = .ok (.aload_n 0, 1) := by decide +kernel
theorem dX10_init_26 : decode cX10_init 26 = .ok (.iconst 5, 1) := by decide +kernel
theorem dX10_init_27 : decode cX10_init 27 = .ok (.newarray .int, 2) := by decide +kernel
theorem dX10_init_29 : decode cX10_init 29 = .ok (.putfield 21, 3) := by decide +kernel
theorem dX10_init_32 : decode cX10_init 32 = .ok (.return_, 1) := by decide +kernel
theorem dX10_fill_0 : decode cX10_fill 0 = .ok (.iconst 0, 1) := by decide +kernel
theorem dX10_fill_1 : decode cX10_fill 1 = .ok (.istore_n 2, 1) := by decide +kernel
theorem dX10_fill_2 : decode cX10_fill 2 = .ok (.iload_n 2, 1) := by decide +kernel
theorem dX10_fill_3 : decode cX10_fill 3 = .ok (.iconst 5, 1) := by decide +kernel
theorem dX10_fill_4 : decode cX10_fill 4 = .ok (.if_icmp .ge 52, 3) := by decide +kernel
theorem dX10_fill_7 : decode cX10_fill 7 = .ok (.aload_n 0, 1) := by decide +kernel
theorem dX10_fill_8 : decode cX10_fill 8 = .ok (.getfield 9, 3) := by decide +kernel
theorem dX10_fill_11 : decode cX10_fill 11 = .ok (.iload_n 2, 1) := by decide +kernel
theorem dX10_fill_12 : decode cX10_fill 12 = .ok (.aload_n 1, 1) := by decide +kernel
theorem dX10_fill_13 : decode cX10_fill 13 = .ok (.getfield 24, 3) := by decide +kernel
theorem dX10_fill_16 : decode cX10_fill 16 = .ok (.iload_n 2, 1) := by decide +kernel
theorem dX10_fill_17 : decode cX10_fill 17 = .ok (.iaload, 1) := by decide +kernel
theorem dX10_fill_18 : decode cX10_fill 18 = .ok (.iastore, 1) := by decide +kernel
theorem dX10_fill_19 : decode cX10_fill 19 = .ok (.aload_n 0, 1) := by decide +kernel
theorem dX10_fill_20 : decode cX10_fill 20 = .ok (.getfield 15, 3) := by decide +kernel
theorem dX10_fill_23 : decode cX10_fill 23 = .ok (.iload_n 2, 1) := by decide +kernel
theorem dX10_fill_24 : decode cX10_fill 24 = .ok (.aload_n 1, 1) := by decide +kernel
theorem dX10_fill_25 : decode cX10_fill 25 = .ok (.getfield 27, 3) := by decide +kernel
theorem dX10_fill_28 : decode cX10_fill 28 = .ok (.iload_n 2, 1) := by decide +kernel
theorem dX10_fill_29 : decode cX10_fill 29 = .ok (.iaload, 1) := by decide +kernel
theorem dX10_fill_30 : decode cX10_fill 30 = .ok (.iastore, 1) := by decide +kernel
theorem dX10_fill_31 : decode cX10_fill 31 = .ok (.aload_n 0, 1) := by decide +kernel
theorem dX10_fill_32 : decode cX10_fill 32 = .ok (.getfield 18, 3) := by decide +kernel
theorem dX10_fill_35 : decode cX10_fill 35 = .ok (.iload_n 2, 1) := by decide +kernel
theorem dX10_fill_36 : decode cX10_fill 36 = .ok (.aload_n 1, 1) := by decide +kernel
theorem dX10_fill_37 : decode cX10_fill 37 = .ok (.getfield 24, 3) := by decide +kernel
theorem dX10_fill_40 : decode cX10_fill 40 = .ok (.iload_n 2, 1) := by decide +kernel
theorem dX10_fill_41 : decode cX10_fill 41 = .ok (.iaload, 1) := by decide +kernel
theorem dX10_fill_42 : decode cX10_fill 42 = .ok (.iastore, 1) := by decide +kernel
theorem dX10_fill_43 : decode cX10_fill 43 = .ok (.aload_n 0, 1) := by decide +kernel
theorem dX10_fill_44 : decode cX10_fill 44 = .ok (.getfield 21, 3) := by decide +kernel
theorem dX10_fill_47 : decode cX10_fill 47 = .ok (.iload_n 2, 1) := by decide +kernel
theorem dX10_fill_48 : decode cX10_fill 48 = .ok (.iconst 0, 1) := by decide +kernel
theorem dX10_fill_49 : decode cX10_fill 49 = .ok (.iastore, 1) := by decide +kernel
theorem dX10_fill_50 : decode cX10_fill 50 = .ok (.iinc 2 1, 3) := by decide +kernel
theorem dX10_fill_53 : decode cX10_fill 53 = .ok (.goto (-51), 3) := by decide +kernel
theorem dX10_fill_56 : decode cX10_fill 56 = .ok (.return_, 1) := by decide +kernel
theorem dX10_become_0 : decode cX10_become 0 = .ok (.iconst 0, 1) := by decide +kernel
theorem dX10_become_1 : decode cX10_become 1 = .ok (.istore_n 2, 1) := by decide +kernel
theorem dX10_become_2 : decode cX10_become 2 = .ok (.iload_n 2, 1) := by decide +kernel
theorem dX10_become_3 : decode cX10_become 3 = .ok (.iconst 5, 1) := by decide +kernel
theorem dX10_become_4 : decode cX10_become 4 = .ok (.if_icmp .ge 57, 3) := by decide +kernel
theorem dX10_become_7 : decode cX10_become 7 = .ok (.aload_n 0, 1) := by decide +kernel
theorem dX10_become_8 : decode cX10_become 8 = .ok (.getfield 9, 3) := by decide +kernel
theorem dX10_become_11 : decode cX10_become 11 = .ok (.iload_n 2, 1) := by decide +kernel
theorem dX10_become_12 : decode cX10_become 12 = .ok (.aload_n 1, 1) := by decide +kernel
theorem dX10_become_13 : decode cX10_become 13 = .ok (.getfield 9, 3) := by decide +kernel
theorem dX10_become_16 : decode cX10_become 16 = .ok (.iload_n 2, 1) := by decide +kernel
theorem dX10_become_17 : decode cX10_become 17 = .ok (.iaload, 1) := by decide +kernel
theorem dX10_become_18 : decode cX10_become 18 = .ok (.iastore, 1) := by decide +kernel
theorem dX10_become_19 : decode cX10_become 19 = .ok (.aload_n 0, 1) := by decide +kernel
theorem dX10_become_20 : decode cX10_become 20 = .ok (.getfield 15, 3) := by decide +kernel
theorem dX10_become_23 : decode cX10_become 23 = .ok (.iload_n 2, 1) := by decide +kernel
theorem dX10_become_24 : decode cX10_become 24 = .ok (.aload_n 1, 1) := by decide +kernel
theorem dX10_become_25 : decode cX10_become 25 = .ok (.getfield 15, 3) := by decide +kernel
theorem dX10_become_28 : decode cX10_become 28 = .ok (.iload_n 2, 1) := by decide +kernel
theorem dX10_become_29 : decode cX10_become 29 = .ok (.iaload, 1) := by decide +kernel
theorem dX10_become_30 : decode cX10_become 30 = .ok (.iastore, 1) := by decide +kernel
theorem dX10_become_31 : decode cX10_become 31 = .ok (.aload_n 0, 1) := by decide +kernel
theorem dX10_become_32 : decode cX10_become 32 = .ok (.getfield 18, 3) := by decide +kernel
theorem dX10_become_35 : decode cX10_become 35 = .ok (.iload_n 2, 1) := by decide +kernel
theorem dX10_become_36 : decode cX10_become 36 = .ok (.aload_n 1, 1) := by decide +kernel
theorem dX10_become_37 : decode cX10_become 37 = .ok (.getfield 18, 3) := by decide +kernel
theorem dX10_become_40 : decode cX10_become 40 = .ok (.iload_n 2, 1) := by decide +kernel
theorem dX10_become_41 : decode cX10_become 41 = .ok (.iaload, 1) := by decide +kernel
theorem dX10_become_42 : decode cX10_become 42 = .ok (.iastore, 1) := by decide +kernel
theorem dX10_become_43 : decode cX10_become 43 = .ok (.aload_n 0, 1) := by decide +kernel
theorem dX10_become_44 : decode cX10_become 44 = .ok (.getfield 21, 3) := by decide +kernel
theorem dX10_become_47 : decode cX10_become 47 = .ok (.iload_n 2, 1) := by decide +kernel
theorem dX10_become_48 : decode cX10_become 48 = .ok (.aload_n 1, 1) := by decide +kernel
theorem dX10_become_49 : decode cX10_become 49 = .ok (.getfield 21, 3) := by decide +kernel
theorem dX10_become_52 : decode cX10_become 52 = .ok (.iload_n 2, 1) := by decide +kernel
theorem dX10_become_53 : decode cX10_become 53 = .ok (.iaload, 1) := by decide +kernel
theorem dX10_become_54 : decode cX10_become 54 = .ok (.iastore, 1) := by decide +kernel
theorem dX10_become_55 : decode cX10_become 55 = .ok (.iinc 2 1, 3) := by decide +kernel
theorem dX10_become_58 : decode cX10_become 58 = .ok (.goto (-56), 3) := by decide +kernel
theorem dX10_become_61 : decode cX10_become 61 = .ok (.return_, 1) := by decide +kernel
theorem dX10_dryUp_0 : decode cX10_dryUp 0 = .ok (.aload_n 0, 1) := by decide +kernel
theorem dX10_dryUp_1 : decode cX10_dryUp 1 = .ok (.getfield 9, 3) := by decide +kernel
theorem dX10_dryUp_4 : decode cX10_dryUp 4 = .ok (.iload_n 1, 1) := by decide +kernel
theorem dX10_dryUp_5 : decode cX10_dryUp 5 = .ok (.iconst 0, 1) := by decide +kernel
theorem dX10_dryUp_6 : decode cX10_dryUp 6 = .ok (.iastore, 1) := by decide +kernel
theorem dX10_dryUp_7 : decode cX10_dryUp 7 = .ok (.aload_n 0, 1) := by decide +kernel
theorem dX10_dryUp_8 : decode cX10_dryUp 8 = .ok (.getfield 15, 3) := by decide +kernel
theorem dX10_dryUp_11 : decode cX10_dryUp 11 = .ok (.iload_n 1, 1) := by decide +kernel
theorem dX10_dryUp_12 : decode cX10_dryUp 12 = .ok (.iconst 0, 1) := by decide +kernel
theorem dX10_dryUp_13 : decode cX10_dryUp 13 = .ok (.iastore, 1) := by decide +kernel
theorem dX10_dryUp_14 : decode cX10_dryUp 14 = .ok (.aload_n 0, 1) := by decide +kernel
theorem dX10_dryUp_15 : decode cX10_dryUp 15 = .ok (.getfield 18, 3) := by decide +kernel
theorem dX10_dryUp_18 : decode cX10_dryUp 18 = .ok (.iload_n 1, 1) := by decide +kernel
theorem dX10_dryUp_19 : decode cX10_dryUp 19 = .ok (.iconst 0, 1) := by decide +kernel
theorem dX10_dryUp_20 : decode cX10_dryUp 20 = .ok (.iastore, 1) := by decide +kernel
theorem dX10_dryUp_21 : decode cX10_dryUp 21 = .ok (.return_, 1) := by decide +kernel
theorem dX10_heldAt_0 : decode cX10_heldAt 0 = .ok (.iload_n 2, 1) := by decide +kernel
theorem dX10_heldAt_1 : decode cX10_heldAt 1 = .ok (.aload_n 0, 1) := by decide +kernel
theorem dX10_heldAt_2 : decode cX10_heldAt 2 = .ok (.getfield 21, 3) := by decide +kernel
theorem dX10_heldAt_5 : decode cX10_heldAt 5 = .ok (.iload_n 1, 1) := by decide +kernel
theorem dX10_heldAt_6 : decode cX10_heldAt 6 = .ok (.iaload, 1) := by decide +kernel
theorem dX10_heldAt_7 : decode cX10_heldAt 7 = .ok (.if_icmp .gt 10, 3) := by decide +kernel
theorem dX10_heldAt_10 : decode cX10_heldAt 10 = .ok (.aload_n 0, 1) := by decide +kernel
theorem dX10_heldAt_11 : decode cX10_heldAt 11 = .ok (.getfield 18, 3) := by decide +kernel
theorem dX10_heldAt_14 : decode cX10_heldAt 14 = .ok (.iload_n 1, 1) := by decide +kernel
theorem dX10_heldAt_15 : decode cX10_heldAt 15 = .ok (.iaload, 1) := by decide +kernel
theorem dX10_heldAt_16 : decode cX10_heldAt 16 = .ok (.ireturn, 1) := by decide +kernel
theorem dX10_heldAt_17 : decode cX10_heldAt 17 = .ok (.aload_n 0, 1) := by decide +kernel
theorem dX10_heldAt_18 : decode cX10_heldAt 18 = .ok (.getfield 18, 3) := by decide +kernel
theorem dX10_heldAt_21 : decode cX10_heldAt 21 = .ok (.iload_n 1, 1) := by decide +kernel
theorem dX10_heldAt_22 : decode cX10_heldAt 22 = .ok (.iaload, 1) := by decide +kernel
theorem dX10_heldAt_23 : decode cX10_heldAt 23 = .ok (.aload_n 0, 1) := by decide +kernel
theorem dX10_heldAt_24 : decode cX10_heldAt 24 = .ok (.getfield 15, 3) := by decide +kernel
theorem dX10_heldAt_27 : decode cX10_heldAt 27 = .ok (.iload_n 1, 1) := by decide +kernel
theorem dX10_heldAt_28 : decode cX10_heldAt 28 = .ok (.iaload, 1) := by decide +kernel
theorem dX10_heldAt_29 : decode cX10_heldAt 29 = .ok (.iload_n 2, 1) := by decide +kernel
theorem dX10_heldAt_30 : decode cX10_heldAt 30 = .ok (.aload_n 0, 1) := by decide +kernel
theorem dX10_heldAt_31 : decode cX10_heldAt 31 = .ok (.getfield 21, 3) := by decide +kernel
theorem dX10_heldAt_34 : decode cX10_heldAt 34 = .ok (.iload_n 1, 1) := by decide +kernel
theorem dX10_heldAt_35 : decode cX10_heldAt 35 = .ok (.iaload, 1) := by decide +kernel
theorem dX10_heldAt_36 : decode cX10_heldAt 36 = .ok (.isub, 1) := by decide +kernel
theorem dX10_heldAt_37 : decode cX10_heldAt 37 = .ok (.imul, 1) := by decide +kernel
theorem dX10_heldAt_38 : decode cX10_heldAt 38 = .ok (.iadd, 1) := by decide +kernel
theorem dX10_heldAt_39 : decode cX10_heldAt 39 = .ok (.istore_n 3, 1) := by decide +kernel
theorem dX10_heldAt_40 : decode cX10_heldAt 40 = .ok (.iload_n 3, 1) := by decide +kernel
theorem dX10_heldAt_41 : decode cX10_heldAt 41 = .ok (.aload_n 0, 1) := by decide +kernel
theorem dX10_heldAt_42 : decode cX10_heldAt 42 = .ok (.getfield 9, 3) := by decide +kernel
theorem dX10_heldAt_45 : decode cX10_heldAt 45 = .ok (.iload_n 1, 1) := by decide +kernel
theorem dX10_heldAt_46 : decode cX10_heldAt 46 = .ok (.iaload, 1) := by decide +kernel
theorem dX10_heldAt_47 : decode cX10_heldAt 47 = .ok (.if_icmp .ge 7, 3) := by decide +kernel
theorem dX10_heldAt_50 : decode cX10_heldAt 50 = .ok (.iload_n 3, 1) := by decide +kernel
theorem dX10_heldAt_51 : decode cX10_heldAt 51 = .ok (.goto 9, 3) := by decide +kernel
theorem dX10_heldAt_54 : decode cX10_heldAt 54 = .ok (.aload_n 0, 1) := by decide +kernel
theorem dX10_heldAt_55 : decode cX10_heldAt 55 = .ok (.getfield 9, 3) := by decide +kernel
theorem dX10_heldAt_58 : decode cX10_heldAt 58 = .ok (.iload_n 1, 1) := by decide +kernel
theorem dX10_heldAt_59 : decode cX10_heldAt 59 = .ok (.iaload, 1) := by decide +kernel
theorem dX10_heldAt_60 : decode cX10_heldAt 60 = .ok (.ireturn, 1) := by decide +kernel
theorem dX10_draw_0 : decode cX10_draw 0 = .ok (.aload_n 0, 1) := by decide +kernel
theorem dX10_draw_1 : decode cX10_draw 1 = .ok (.iload_n 1, 1) := by decide +kernel
theorem dX10_draw_2 : decode cX10_draw 2 = .ok (.iload_n 2, 1) := by decide +kernel
theorem dX10_draw_3 : decode cX10_draw 3 = .ok (.invokevirtual 28, 3) := by decide +kernel
theorem dX10_draw_6 : decode cX10_draw 6 = .ok (.istore 4, 2) := by decide +kernel
theorem dX10_draw_8 : decode cX10_draw 8 = .ok (.iload 4, 2) := by decide +kernel
theorem dX10_draw_10 : decode cX10_draw 10 = .ok (.iload_n 3, 1) := by decide +kernel
theorem dX10_draw_11 : decode cX10_draw 11 = .ok (.invokestatic 32, 3) := by decide +kernel
theorem dX10_draw_14 : decode cX10_draw 14 = .ok (.istore 5, 2) := by decide +kernel
theorem dX10_draw_16 : decode cX10_draw 16 = .ok (.aload_n 0, 1) := by decide +kernel
theorem dX10_draw_17 : decode cX10_draw 17 = .ok (.getfield 18, 3) := by decide +kernel
theorem dX10_draw_20 : decode cX10_draw 20 = .ok (.iload_n 1, 1) := by decide +kernel
theorem dX10_draw_21 : decode cX10_draw 21 = .ok (.iload 4, 2) := by decide +kernel
theorem dX10_draw_23 : decode cX10_draw 23 = .ok (.iload 5, 2) := by decide +kernel
theorem dX10_draw_25 : decode cX10_draw 25 = .ok (.isub, 1) := by decide +kernel
theorem dX10_draw_26 : decode cX10_draw 26 = .ok (.iastore, 1) := by decide +kernel
theorem dX10_draw_27 : decode cX10_draw 27 = .ok (.aload_n 0, 1) := by decide +kernel
theorem dX10_draw_28 : decode cX10_draw 28 = .ok (.getfield 21, 3) := by decide +kernel
theorem dX10_draw_31 : decode cX10_draw 31 = .ok (.iload_n 1, 1) := by decide +kernel
theorem dX10_draw_32 : decode cX10_draw 32 = .ok (.iload_n 2, 1) := by decide +kernel
theorem dX10_draw_33 : decode cX10_draw 33 = .ok (.iastore, 1) := by decide +kernel
theorem dX10_draw_34 : decode cX10_draw 34 = .ok (.iload 5, 2) := by decide +kernel
theorem dX10_draw_36 : decode cX10_draw 36 = .ok (.ireturn, 1) := by decide +kernel
theorem dX11_init_0 : decode cX11_init 0 = .ok (.aload_n 0, 1) := by decide +kernel
theorem dX11_init_1 : decode cX11_init 1 = .ok (.invokespecial 3, 3) := by decide +kernel
theorem dX11_init_4 : decode cX11_init 4 = .ok (.aload_n 0, 1) := by decide +kernel
theorem dX11_init_5 : decode cX11_init 5 = .ok (.new 9, 3) := by decide +kernel
theorem dX11_init_8 : decode cX11_init 8 = .ok (.dup, 1) := by decide +kernel
theorem dX11_init_9 : decode cX11_init 9 = .ok (.invokespecial 11, 3) := by decide +kernel
theorem dX11_init_12 : decode cX11_init 12 = .ok (.putfield 12, 3) := by decide +kernel
theorem dX11_init_15 : decode cX11_init 15 = .ok (.aload_n 0, 1) := by decide +kernel
theorem dX11_init_16 : decode cX11_init 16 = .ok (.aconst_null, 1) := by decide +kernel
theorem dX11_init_17 : decode cX11_init 17 = .ok (.putfield 18, 3) := by decide +kernel
theorem dX11_init_20 : decode cX11_init 20 = .ok (.aload_n 0, 1) := by decide +kernel
theorem dX11_init_21 : decode cX11_init 21 = .ok (.bipush 10, 2) := by decide +kernel
theorem dX11_init_23 : decode cX11_init 23 = .ok (.anewarray 22, 3) := by decide +kernel
theorem dX11_init_26 : decode cX11_init 26 = .ok (.putfield 24, 3) := by decide +kernel
theorem dX11_init_29 : decode cX11_init 29 = .ok (.aload_n 0, 1) := by decide +kernel
theorem dX11_init_30 : decode cX11_init 30 = .ok (.bipush 6, 2) := by decide +kernel
theorem dX11_init_32 : decode cX11_init 32 = .ok (.anewarray 28, 3) := by decide +kernel
theorem dX11_init_35 : decode cX11_init 35 = .ok (.putfield 30, 3) := by decide +kernel
theorem dX11_init_38 : decode cX11_init 38 = .ok (.aload_n 0, 1) := by decide +kernel
theorem dX11_init_39 : decode cX11_init 39 = .ok (.new 34, 3) := by decide +kernel
theorem dX11_init_42 : decode cX11_init 42 = .ok (.dup, 1) := by decide +kernel
theorem dX11_init_43 : decode cX11_init 43 = .ok (.invokespecial 36, 3) := by decide +kernel
theorem dX11_init_46 : decode cX11_init 46 = .ok (.putfield 37, 3) := by decide +kernel
theorem dX11_init_49 : decode cX11_init 49 = .ok (.aload_n 0, 1) := by decide +kernel
theorem dX11_init_50 : decode cX11_init 50 = .ok (.new 34, 3) := by decide +kernel
theorem dX11_init_53 : decode cX11_init 53 = .ok (.dup, 1) := by decide +kernel
theorem dX11_init_54 : decode cX11_init 54 = .ok (.invokespecial 36, 3) := by decide +kernel
theorem dX11_init_57 : decode cX11_init 57 = .ok (.putfield 41, 3) := by decide +kernel
theorem dX11_init_60 : decode cX11_init 60 = .ok (.aload_n 0, 1) := by decide +kernel
theorem dX11_init_61 : decode cX11_init 61 = .ok (.bipush 6, 2) := by decide +kernel
theorem dX11_init_63 : decode cX11_init 63 = .ok (.anewarray 44, 3) := by decide +kernel
theorem dX11_init_66 : decode cX11_init 66 = .ok (.putfield 46, 3) := by decide +kernel
theorem dX11_init_69 : decode cX11_init 69 = .ok (.aload_n 0, 1) := by decide +kernel
theorem dX11_init_70 : decode cX11_init 70 = .ok (.new 50, 3) := by decide +kernel
theorem dX11_init_73 : decode cX11_init 73 = .ok (.dup, 1) := by decide +kernel
theorem dX11_init_74 : decode cX11_init 74 = .ok (.invokespecial 52, 3) := by decide +kernel
theorem dX11_init_77 : decode cX11_init 77 = .ok (.putfield 53, 3) := by decide +kernel
theorem dX11_init_80 : decode cX11_init 80 = .ok (.aload_n 0, 1) := by decide +kernel
theorem dX11_init_81 : decode cX11_init 81 = .ok (.new 57, 3) := by decide +kernel
theorem dX11_init_84 : decode cX11_init 84 = .ok (.dup, 1) := by decide +kernel
theorem dX11_init_85 : decode cX11_init 85 = .ok (.invokespecial 59, 3) := by decide +kernel
theorem dX11_init_88 : decode cX11_init 88 = .ok (.putfield 60, 3) := by decide +kernel
theorem dX11_init_91 : decode cX11_init 91 = .ok (.aload_n 0, 1) := by decide +kernel
theorem dX11_init_92 : decode cX11_init 92 = .ok (.new 64, 3) := by decide +kernel
theorem dX11_init_95 : decode cX11_init 95 = .ok (.dup, 1) := by decide +kernel
theorem dX11_init_96 : decode cX11_init 96 = .ok (.invokespecial 66, 3) := by decide +kernel
theorem dX11_init_99 : decode cX11_init 99 = .ok (.putfield 67, 3) := by decide +kernel
theorem dX11_init_102 : decode cX11_init 102 = .ok (.aload_n 0, 1) := by decide +kernel
theorem dX11_init_103 : decode cX11_init 103 = .ok (.new 71, 3) := by decide +kernel
theorem dX11_init_106 : decode cX11_init 106 = .ok (.dup, 1) := by decide +kernel
theorem dX11_init_107 : decode cX11_init 107 = .ok (.invokespecial 73, 3) := by decide +kernel
theorem dX11_init_110 : decode cX11_init 110 = .ok (.putfield 74, 3) := by decide +kernel
theorem dX11_init_113 : decode cX11_init 113 = .ok (.aload_n 0, 1) := by decide +kernel
theorem dX11_init_114 : decode cX11_init 114 = .ok (.new 78, 3) := by decide +kernel
theorem dX11_init_117 : decode cX11_init 117 = .ok (.dup, 1) := by decide +kernel
theorem dX11_init_118 : decode cX11_init 118 = .ok (.invokespecial 80, 3) := by decide +kernel
theorem dX11_init_121 : decode cX11_init 121 = .ok (.putfield 81, 3) := by decide +kernel
theorem dX11_init_124 : decode cX11_init 124 = .ok (.aload_n 0, 1) := by decide +kernel
theorem dX11_init_125 : decode cX11_init 125 = .ok (.new 85, 3) := by decide +kernel
theorem dX11_init_128 : decode cX11_init 128 = .ok (.dup, 1) := by decide +kernel
theorem dX11_init_129 : decode cX11_init 129 = .ok (.invokespecial 87, 3) := by decide +kernel
theorem dX11_init_132 : decode cX11_init 132 = .ok (.putfield 88, 3) := by decide +kernel
theorem dX11_init_135 : decode cX11_init 135 = .ok (.aload_n 0, 1) := by decide +kernel
theorem dX11_init_136 : decode cX11_init 136 = .ok (.new 28, 3) := by decide +kernel
theorem dX11_init_139 : decode cX11_init 139 = .ok (.dup, 1) := by decide +kernel
theorem dX11_init_140 : decode cX11_init 140 = .ok (.invokespecial 91, 3) := by decide +kernel
theorem dX11_init_143 : decode cX11_init 143 = .ok (.putfield 92, 3) := by decide +kernel
theorem dX11_init_146 : decode cX11_init 146 = .ok (.aload_n 0, 1) := by decide +kernel
theorem dX11_init_147 : decode cX11_init 147 = .ok (.iconst 5, 1) := by decide +kernel
theorem dX11_init_148 : decode cX11_init 148 = .ok (.newarray .int, 2) := by decide +kernel
theorem dX11_init_150 : decode cX11_init 150 = .ok (.putfield 96, 3) := by decide +kernel
theorem dX11_init_153 : decode cX11_init 153 = .ok (.iconst 0, 1) := by decide +kernel
theorem dX11_init_154 : decode cX11_init 154 = .ok (.istore_n 1, 1) := by decide +kernel
theorem dX11_init_155 : decode cX11_init 155 = .ok (.iload_n 1, 1) := by decide +kernel
theorem dX11_init_156 : decode cX11_init 156 = .ok (.bipush 6, 2) := by decide +kernel
theorem dX11_init_158 : decode cX11_init 158 = .ok (.if_icmp .ge 22, 3) := by decide +kernel
theorem dX11_init_161 : decode cX11_init 161 = .ok (.aload_n 0, 1) := by decide +kernel
theorem dX11_init_162 : decode cX11_init 162 = .ok (.getfield 46, 3) := by decide +kernel
theorem dX11_init_165 : decode cX11_init 165 = .ok (.iload_n 1, 1) := by decide +kernel
theorem dX11_init_166 : decode cX11_init 166 = .ok (.new 44, 3) := by decide +kernel
theorem dX11_init_169 : decode cX11_init 169 = .ok (.dup, 1) := by decide +kernel
theorem dX11_init_170 : decode cX11_init 170 = .ok (.invokespecial 100, 3) := by decide +kernel
theorem dX11_init_173 : decode cX11_init 173 = .ok (.aastore, 1) := by decide +kernel
theorem dX11_init_174 : decode cX11_init 174 = .ok (.iinc 1 1, 3) := by decide +kernel
theorem dX11_init_177 : decode cX11_init 177 = .ok (.goto (-22), 3) := by decide +kernel
theorem dX11_init_180 : decode cX11_init 180 = .ok (.return_, 1) := by decide +kernel
theorem dX11_feed_0 : decode cX11_feed 0 = .ok (.iload_n 2, 1) := by decide +kernel
theorem dX11_feed_1 : decode cX11_feed 1 = .ok (.iconst 0, 1) := by decide +kernel
theorem dX11_feed_2 : decode cX11_feed 2 = .ok (.iconst 4, 1) := by decide +kernel
theorem dX11_feed_3 : decode cX11_feed 3 = .ok (.invokestatic 101, 3) := by decide +kernel
theorem dX11_feed_6 : decode cX11_feed 6 = .ok (.ifCond .ne 6, 3) := by decide +kernel
theorem dX11_feed_9 : decode cX11_feed 9 = .ok (.bipush (-2), 2) := by decide +kernel
theorem dX11_feed_11 : decode cX11_feed 11 = .ok (.ireturn, 1) := by decide +kernel
theorem dX11_feed_12 : decode cX11_feed 12 = .ok (.aload_n 0, 1) := by decide +kernel
theorem dX11_feed_13 : decode cX11_feed 13 = .ok (.getfield 12, 3) := by decide +kernel
theorem dX11_feed_16 : decode cX11_feed 16 = .ok (.getfield 105, 3) := by decide +kernel
theorem dX11_feed_19 : decode cX11_feed 19 = .ok (.iload_n 2, 1) := by decide +kernel
theorem dX11_feed_20 : decode cX11_feed 20 = .ok (.iadd, 1) := by decide +kernel
theorem dX11_feed_21 : decode cX11_feed 21 = .ok (.bipush 100, 2) := by decide +kernel
theorem dX11_feed_23 : decode cX11_feed 23 = .ok (.if_icmp .le 6, 3) := by decide +kernel
theorem dX11_feed_26 : decode cX11_feed 26 = .ok (.bipush (-4), 2) := by decide +kernel
theorem dX11_feed_28 : decode cX11_feed 28 = .ok (.ireturn, 1) := by decide +kernel
theorem dX11_feed_29 : decode cX11_feed 29 = .ok (.iload_n 2, 1) := by decide +kernel
theorem dX11_feed_30 : decode cX11_feed 30 = .ok (.iconst 1, 1) := by decide +kernel
theorem dX11_feed_31 : decode cX11_feed 31 = .ok (.isub, 1) := by decide +kernel
theorem dX11_feed_32 : decode cX11_feed 32 = .ok (.istore_n 3, 1) := by decide +kernel
theorem dX11_feed_33 : decode cX11_feed 33 = .ok (.iload_n 3, 1) := by decide +kernel
theorem dX11_feed_34 : decode cX11_feed 34 = .ok (.ifCond .lt 23, 3) := by decide +kernel
theorem dX11_feed_37 : decode cX11_feed 37 = .ok (.aload_n 0, 1) := by decide +kernel
theorem dX11_feed_38 : decode cX11_feed 38 = .ok (.getfield 12, 3) := by decide +kernel
theorem dX11_feed_41 : decode cX11_feed 41 = .ok (.iload_n 1, 1) := by decide +kernel
theorem dX11_feed_42 : decode cX11_feed 42 = .ok (.bipush 8, 2) := by decide +kernel
theorem dX11_feed_44 : decode cX11_feed 44 = .ok (.iload_n 3, 1) := by decide +kernel
theorem dX11_feed_45 : decode cX11_feed 45 = .ok (.imul, 1) := by decide +kernel
theorem dX11_feed_46 : decode cX11_feed 46 = .ok (.ishr, 1) := by decide +kernel
theorem dX11_feed_47 : decode cX11_feed 47 = .ok (.i2b, 1) := by decide +kernel
theorem dX11_feed_48 : decode cX11_feed 48 = .ok (.invokevirtual 109, 3) := by decide +kernel
theorem dX11_feed_51 : decode cX11_feed 51 = .ok (.iinc 3 (-1), 3) := by decide +kernel
theorem dX11_feed_54 : decode cX11_feed 54 = .ok (.goto (-21), 3) := by decide +kernel
theorem dX11_feed_57 : decode cX11_feed 57 = .ok (.aload_n 0, 1) := by decide +kernel
theorem dX11_feed_58 : decode cX11_feed 58 = .ok (.getfield 12, 3) := by decide +kernel
theorem dX11_feed_61 : decode cX11_feed 61 = .ok (.getfield 105, 3) := by decide +kernel
theorem dX11_feed_64 : decode cX11_feed 64 = .ok (.ireturn, 1) := by decide +kernel
theorem dX11_waste_0 : decode cX11_waste 0 = .ok (.aload_n 0, 1) := by decide +kernel
theorem dX11_waste_1 : decode cX11_waste 1 = .ok (.getfield 113, 3) := by decide +kernel
theorem dX11_waste_4 : decode cX11_waste 4 = .ok (.iconst 5, 1) := by decide +kernel
theorem dX11_waste_5 : decode cX11_waste 5 = .ok (.if_icmp .lt 6, 3) := by decide +kernel
theorem dX11_waste_8 : decode cX11_waste 8 = .ok (.bipush (-4), 2) := by decide +kernel
theorem dX11_waste_10 : decode cX11_waste 10 = .ok (.ireturn, 1) := by decide +kernel
theorem dX11_waste_11 : decode cX11_waste 11 = .ok (.aload_n 0, 1) := by decide +kernel
theorem dX11_waste_12 : decode cX11_waste 12 = .ok (.getfield 18, 3) := by decide +kernel
theorem dX11_waste_15 : decode cX11_waste 15 = .ok (.ifnonnull 14, 3) := by decide +kernel
theorem dX11_waste_18 : decode cX11_waste 18 = .ok (.aload_n 0, 1) := by decide +kernel
theorem dX11_waste_19 : decode cX11_waste 19 = .ok (.new 85, 3) := by decide +kernel
theorem dX11_waste_22 : decode cX11_waste 22 = .ok (.dup, 1) := by decide +kernel
theorem dX11_waste_23 : decode cX11_waste 23 = .ok (.invokespecial 87, 3) := by decide +kernel
theorem dX11_waste_26 : decode cX11_waste 26 = .ok (.putfield 18, 3) := by decide +kernel
theorem dX11_waste_29 : decode cX11_waste 29 = .ok (.aload_n 0, 1) := by decide +kernel
theorem dX11_waste_30 : decode cX11_waste 30 = .ok (.getfield 12, 3) := by decide +kernel
theorem dX11_waste_33 : decode cX11_waste 33 = .ok (.aload_n 0, 1) := by decide +kernel
theorem dX11_waste_34 : decode cX11_waste 34 = .ok (.getfield 18, 3) := by decide +kernel
theorem dX11_waste_37 : decode cX11_waste 37 = .ok (.invokevirtual 116, 3) := by decide +kernel
theorem dX11_waste_40 : decode cX11_waste 40 = .ok (.istore_n 1, 1) := by decide +kernel
theorem dX11_waste_41 : decode cX11_waste 41 = .ok (.aload_n 0, 1) := by decide +kernel
theorem dX11_waste_42 : decode cX11_waste 42 = .ok (.getfield 12, 3) := by decide +kernel
theorem dX11_waste_45 : decode cX11_waste 45 = .ok (.iconst 0, 1) := by decide +kernel
theorem dX11_waste_46 : decode cX11_waste 46 = .ok (.putfield 105, 3) := by decide +kernel
theorem dX11_waste_49 : decode cX11_waste 49 = .ok (.iload_n 1, 1) := by decide +kernel
theorem dX11_waste_50 : decode cX11_waste 50 = .ok (.ifCond .lt 8, 3) := by decide +kernel
theorem dX11_waste_53 : decode cX11_waste 53 = .ok (.bipush (-10), 2) := by decide +kernel
theorem dX11_waste_55 : decode cX11_waste 55 = .ok (.iload_n 1, 1) := by decide +kernel
theorem dX11_waste_56 : decode cX11_waste 56 = .ok (.isub, 1) := by decide +kernel
theorem dX11_waste_57 : decode cX11_waste 57 = .ok (.ireturn, 1) := by decide +kernel
theorem dX11_waste_58 : decode cX11_waste 58 = .ok (.aload_n 0, 1) := by decide +kernel
theorem dX11_waste_59 : decode cX11_waste 59 = .ok (.getfield 37, 3) := by decide +kernel
theorem dX11_waste_62 : decode cX11_waste 62 = .ok (.aload_n 0, 1) := by decide +kernel
theorem dX11_waste_63 : decode cX11_waste 63 = .ok (.getfield 18, 3) := by decide +kernel
theorem dX11_waste_66 : decode cX11_waste 66 = .ok (.putfield 120, 3) := by decide +kernel
theorem dX11_waste_69 : decode cX11_waste 69 = .ok (.aload_n 0, 1) := by decide +kernel
theorem dX11_waste_70 : decode cX11_waste 70 = .ok (.getfield 37, 3) := by decide +kernel
theorem dX11_waste_73 : decode cX11_waste 73 = .ok (.getfield 123, 3) := by decide +kernel
theorem dX11_waste_76 : decode cX11_waste 76 = .ok (.aload_n 0, 1) := by decide +kernel
theorem dX11_waste_77 : decode cX11_waste 77 = .ok (.getfield 18, 3) := by decide +kernel
theorem dX11_waste_80 : decode cX11_waste 80 = .ok (.invokevirtual 126, 3) := by decide +kernel
theorem dX11_waste_83 : decode cX11_waste 83 = .ok (.aload_n 0, 1) := by decide +kernel
theorem dX11_waste_84 : decode cX11_waste 84 = .ok (.aconst_null, 1) := by decide +kernel
theorem dX11_waste_85 : decode cX11_waste 85 = .ok (.putfield 18, 3) := by decide +kernel
theorem dX11_waste_88 : decode cX11_waste 88 = .ok (.aload_n 0, 1) := by decide +kernel
theorem dX11_waste_89 : decode cX11_waste 89 = .ok (.dup, 1) := by decide +kernel
theorem dX11_waste_90 : decode cX11_waste 90 = .ok (.getfield 113, 3) := by decide +kernel
theorem dX11_waste_93 : decode cX11_waste 93 = .ok (.iconst 1, 1) := by decide +kernel
theorem dX11_waste_94 : decode cX11_waste 94 = .ok (.iadd, 1) := by decide +kernel
theorem dX11_waste_95 : decode cX11_waste 95 = .ok (.putfield 113, 3) := by decide +kernel
theorem dX11_waste_98 : decode cX11_waste 98 = .ok (.aload_n 0, 1) := by decide +kernel
theorem dX11_waste_99 : decode cX11_waste 99 = .ok (.getfield 113, 3) := by decide +kernel
theorem dX11_waste_102 : decode cX11_waste 102 = .ok (.iconst 1, 1) := by decide +kernel
theorem dX11_waste_103 : decode cX11_waste 103 = .ok (.isub, 1) := by decide +kernel
theorem dX11_waste_104 : decode cX11_waste 104 = .ok (.ireturn, 1) := by decide +kernel
theorem dX11_of_0 : decode cX11_of 0 = .ok (.iload_n 1, 1) := by decide +kernel
theorem dX11_of_1 : decode cX11_of 1 = .ok (.iconst 0, 1) := by decide +kernel
theorem dX11_of_2 : decode cX11_of 2 = .ok (.iconst 3, 1) := by decide +kernel
theorem dX11_of_3 : decode cX11_of 3 = .ok (.invokestatic 101, 3) := by decide +kernel
theorem dX11_of_6 : decode cX11_of 6 = .ok (.ifCond .ne 38, 3) := by decide +kernel
theorem dX11_of_9 : decode cX11_of 9 = .ok (.iload_n 1, 1) := by decide +kernel
theorem dX11_of_10 : decode cX11_of 10 = .ok (.bipush 10, 2) := by decide +kernel
theorem dX11_of_12 : decode cX11_of 12 = .ok (.bipush 14, 2) := by decide +kernel
theorem dX11_of_14 : decode cX11_of 14 = .ok (.invokestatic 101, 3) := by decide +kernel
theorem dX11_of_17 : decode cX11_of 17 = .ok (.ifCond .ne 27, 3) := by decide +kernel
theorem dX11_of_20 : decode cX11_of 20 = .ok (.iload_n 1, 1) := by decide +kernel
theorem dX11_of_21 : decode cX11_of 21 = .ok (.bipush 20, 2) := by decide +kernel
theorem dX11_of_23 : decode cX11_of 23 = .ok (.bipush 24, 2) := by decide +kernel
theorem dX11_of_25 : decode cX11_of 25 = .ok (.invokestatic 101, 3) := by decide +kernel
theorem dX11_of_28 : decode cX11_of 28 = .ok (.ifCond .ne 16, 3) := by decide +kernel
theorem dX11_of_31 : decode cX11_of 31 = .ok (.iload_n 1, 1) := by decide +kernel
theorem dX11_of_32 : decode cX11_of 32 = .ok (.bipush 30, 2) := by decide +kernel
theorem dX11_of_34 : decode cX11_of 34 = .ok (.bipush 35, 2) := by decide +kernel
theorem dX11_of_36 : decode cX11_of 36 = .ok (.invokestatic 101, 3) := by decide +kernel
theorem dX11_of_39 : decode cX11_of 39 = .ok (.ifCond .ne 5, 3) := by decide +kernel
theorem dX11_of_42 : decode cX11_of 42 = .ok (.iconst (-1), 1) := by decide +kernel
theorem dX11_of_43 : decode cX11_of 43 = .ok (.ireturn, 1) := by decide +kernel
theorem dX11_of_44 : decode cX11_of 44 = .ok (.aload_n 0, 1) := by decide +kernel
theorem dX11_of_45 : decode cX11_of 45 = .ok (.getfield 37, 3) := by decide +kernel
theorem dX11_of_48 : decode cX11_of 48 = .ok (.getfield 120, 3) := by decide +kernel
theorem dX11_of_51 : decode cX11_of 51 = .ok (.astore_n 2, 1) := by decide +kernel
theorem dX11_of_52 : decode cX11_of 52 = .ok (.aload_n 2, 1) := by decide +kernel
theorem dX11_of_53 : decode cX11_of 53 = .ok (.ifnonnull 6, 3) := by decide +kernel
theorem dX11_of_56 : decode cX11_of 56 = .ok (.bipush (-3), 2) := by decide +kernel
theorem dX11_of_58 : decode cX11_of 58 = .ok (.ireturn, 1) := by decide +kernel
theorem dX11_of_59 : decode cX11_of 59 = .ok (.iload_n 1, 1) := by decide +kernel
theorem dX11_of_60 : decode cX11_of 60 = .ok (.bipush 10, 2) := by decide +kernel
theorem dX11_of_62 : decode cX11_of 62 = .ok (.irem, 1) := by decide +kernel
theorem dX11_of_63 : decode cX11_of 63 = .ok (.istore_n 3, 1) := by decide +kernel
theorem dX11_of_64 : decode cX11_of 64 = .ok (.iload_n 1, 1) := by decide +kernel
theorem dX11_of_65 : decode cX11_of 65 = .ok (.bipush 10, 2) := by decide +kernel
theorem dX11_of_67 : decode cX11_of 67 = .ok (.idiv, 1) := by decide +kernel
theorem dX11_of_68 : decode cX11_of 68 = .ok (.tableswitch 72 0 2 #[28, 34, 53], 28) := by decide +kernel
theorem dX11_of_96 : decode cX11_of 96 = .ok (.aload_n 2, 1) := by decide +kernel
theorem dX11_of_97 : decode cX11_of 97 = .ok (.iload_n 3, 1) := by decide +kernel
theorem dX11_of_98 : decode cX11_of 98 = .ok (.invokevirtual 130, 3) := by decide +kernel
theorem dX11_of_101 : decode cX11_of 101 = .ok (.ireturn, 1) := by decide +kernel
theorem dX11_of_102 : decode cX11_of 102 = .ok (.iload_n 3, 1) := by decide +kernel
theorem dX11_of_103 : decode cX11_of 103 = .ok (.aload_n 2, 1) := by decide +kernel
theorem dX11_of_104 : decode cX11_of 104 = .ok (.getfield 134, 3) := by decide +kernel
theorem dX11_of_107 : decode cX11_of 107 = .ok (.if_icmp .ge 12, 3) := by decide +kernel
theorem dX11_of_110 : decode cX11_of 110 = .ok (.aload_n 2, 1) := by decide +kernel
theorem dX11_of_111 : decode cX11_of 111 = .ok (.getfield 136, 3) := by decide +kernel
theorem dX11_of_114 : decode cX11_of 114 = .ok (.iload_n 3, 1) := by decide +kernel
theorem dX11_of_115 : decode cX11_of 115 = .ok (.iaload, 1) := by decide +kernel
theorem dX11_of_116 : decode cX11_of 116 = .ok (.goto 4, 3) := by decide +kernel
theorem dX11_of_119 : decode cX11_of 119 = .ok (.iconst (-1), 1) := by decide +kernel
theorem dX11_of_120 : decode cX11_of 120 = .ok (.ireturn, 1) := by decide +kernel
theorem dX11_of_121 : decode cX11_of 121 = .ok (.iload_n 3, 1) := by decide +kernel
theorem dX11_of_122 : decode cX11_of 122 = .ok (.aload_n 2, 1) := by decide +kernel
theorem dX11_of_123 : decode cX11_of 123 = .ok (.getfield 134, 3) := by decide +kernel
theorem dX11_of_126 : decode cX11_of 126 = .ok (.if_icmp .ge 12, 3) := by decide +kernel
theorem dX11_of_129 : decode cX11_of 129 = .ok (.aload_n 2, 1) := by decide +kernel
theorem dX11_of_130 : decode cX11_of 130 = .ok (.getfield 139, 3) := by decide +kernel
theorem dX11_of_133 : decode cX11_of 133 = .ok (.iload_n 3, 1) := by decide +kernel
theorem dX11_of_134 : decode cX11_of 134 = .ok (.iaload, 1) := by decide +kernel
theorem dX11_of_135 : decode cX11_of 135 = .ok (.goto 4, 3) := by decide +kernel
theorem dX11_of_138 : decode cX11_of 138 = .ok (.iconst (-1), 1) := by decide +kernel
theorem dX11_of_139 : decode cX11_of 139 = .ok (.ireturn, 1) := by decide +kernel
theorem dX11_of_140 : decode cX11_of 140 = .ok (.iload_n 3, 1) := by decide +kernel
theorem dX11_of_141 : decode cX11_of 141 = .ok (.aload_n 2, 1) := by decide +kernel
theorem dX11_of_142 : decode cX11_of 142 = .ok (.getfield 134, 3) := by decide +kernel
theorem dX11_of_145 : decode cX11_of 145 = .ok (.if_icmp .gt 12, 3) := by decide +kernel
theorem dX11_of_148 : decode cX11_of 148 = .ok (.aload_n 2, 1) := by decide +kernel
theorem dX11_of_149 : decode cX11_of 149 = .ok (.getfield 142, 3) := by decide +kernel
theorem dX11_of_152 : decode cX11_of 152 = .ok (.iload_n 3, 1) := by decide +kernel
theorem dX11_of_153 : decode cX11_of 153 = .ok (.iaload, 1) := by decide +kernel
theorem dX11_of_154 : decode cX11_of 154 = .ok (.goto 4, 3) := by decide +kernel
theorem dX11_of_157 : decode cX11_of 157 = .ok (.iconst (-1), 1) := by decide +kernel
theorem dX11_of_158 : decode cX11_of 158 = .ok (.ireturn, 1) := by decide +kernel
theorem dX11_holds_0 : decode cX11_holds 0 = .ok (.iload_n 1, 1) := by decide +kernel
theorem dX11_holds_1 : decode cX11_holds 1 = .ok (.iconst 0, 1) := by decide +kernel
theorem dX11_holds_2 : decode cX11_holds 2 = .ok (.iconst 4, 1) := by decide +kernel
theorem dX11_holds_3 : decode cX11_holds 3 = .ok (.invokestatic 101, 3) := by decide +kernel
theorem dX11_holds_6 : decode cX11_holds 6 = .ok (.ifCond .ne 5, 3) := by decide +kernel
theorem dX11_holds_9 : decode cX11_holds 9 = .ok (.iconst (-1), 1) := by decide +kernel
theorem dX11_holds_10 : decode cX11_holds 10 = .ok (.ireturn, 1) := by decide +kernel
theorem dX11_holds_11 : decode cX11_holds 11 = .ok (.iload_n 2, 1) := by decide +kernel
theorem dX11_holds_12 : decode cX11_holds 12 = .ok (.iconst 0, 1) := by decide +kernel
theorem dX11_holds_13 : decode cX11_holds 13 = .ok (.sipush 999, 3) := by decide +kernel
theorem dX11_holds_16 : decode cX11_holds 16 = .ok (.invokestatic 101, 3) := by decide +kernel
theorem dX11_holds_19 : decode cX11_holds 19 = .ok (.ifCond .ne 6, 3) := by decide +kernel
theorem dX11_holds_22 : decode cX11_holds 22 = .ok (.bipush (-2), 2) := by decide +kernel
theorem dX11_holds_24 : decode cX11_holds 24 = .ok (.ireturn, 1) := by decide +kernel
theorem dX11_holds_25 : decode cX11_holds 25 = .ok (.aload_n 0, 1) := by decide +kernel
theorem dX11_holds_26 : decode cX11_holds 26 = .ok (.getfield 37, 3) := by decide +kernel
theorem dX11_holds_29 : decode cX11_holds 29 = .ok (.getfield 120, 3) := by decide +kernel
theorem dX11_holds_32 : decode cX11_holds 32 = .ok (.ifnonnull 6, 3) := by decide +kernel
theorem dX11_holds_35 : decode cX11_holds 35 = .ok (.bipush (-3), 2) := by decide +kernel
theorem dX11_holds_37 : decode cX11_holds 37 = .ok (.ireturn, 1) := by decide +kernel
theorem dX11_holds_38 : decode cX11_holds 38 = .ok (.iload_n 1, 1) := by decide +kernel
theorem dX11_holds_39 : decode cX11_holds 39 = .ok (.aload_n 0, 1) := by decide +kernel
theorem dX11_holds_40 : decode cX11_holds 40 = .ok (.getfield 37, 3) := by decide +kernel
theorem dX11_holds_43 : decode cX11_holds 43 = .ok (.getfield 120, 3) := by decide +kernel
theorem dX11_holds_46 : decode cX11_holds 46 = .ok (.getfield 134, 3) := by decide +kernel
theorem dX11_holds_49 : decode cX11_holds 49 = .ok (.if_icmp .ge 18, 3) := by decide +kernel
theorem dX11_holds_52 : decode cX11_holds 52 = .ok (.aload_n 0, 1) := by decide +kernel
theorem dX11_holds_53 : decode cX11_holds 53 = .ok (.getfield 37, 3) := by decide +kernel
theorem dX11_holds_56 : decode cX11_holds 56 = .ok (.getfield 123, 3) := by decide +kernel
theorem dX11_holds_59 : decode cX11_holds 59 = .ok (.iload_n 1, 1) := by decide +kernel
theorem dX11_holds_60 : decode cX11_holds 60 = .ok (.iload_n 2, 1) := by decide +kernel
theorem dX11_holds_61 : decode cX11_holds 61 = .ok (.invokevirtual 145, 3) := by decide +kernel
theorem dX11_holds_64 : decode cX11_holds 64 = .ok (.goto 4, 3) := by decide +kernel
theorem dX11_holds_67 : decode cX11_holds 67 = .ok (.iconst (-1), 1) := by decide +kernel
theorem dX11_holds_68 : decode cX11_holds 68 = .ok (.ireturn, 1) := by decide +kernel
theorem dX11_drinks_0 : decode cX11_drinks 0 = .ok (.iload_n 1, 1) := by decide +kernel
theorem dX11_drinks_1 : decode cX11_drinks 1 = .ok (.iconst 0, 1) := by decide +kernel
theorem dX11_drinks_2 : decode cX11_drinks 2 = .ok (.iconst 5, 1) := by decide +kernel
theorem dX11_drinks_3 : decode cX11_drinks 3 = .ok (.invokestatic 101, 3) := by decide +kernel
theorem dX11_drinks_6 : decode cX11_drinks 6 = .ok (.ifCond .ne 5, 3) := by decide +kernel
theorem dX11_drinks_9 : decode cX11_drinks 9 = .ok (.iconst (-1), 1) := by decide +kernel
theorem dX11_drinks_10 : decode cX11_drinks 10 = .ok (.ireturn, 1) := by decide +kernel
theorem dX11_drinks_11 : decode cX11_drinks 11 = .ok (.iload_n 2, 1) := by decide +kernel
theorem dX11_drinks_12 : decode cX11_drinks 12 = .ok (.iconst 0, 1) := by decide +kernel
theorem dX11_drinks_13 : decode cX11_drinks 13 = .ok (.sipush 999, 3) := by decide +kernel
theorem dX11_drinks_16 : decode cX11_drinks 16 = .ok (.invokestatic 101, 3) := by decide +kernel
theorem dX11_drinks_19 : decode cX11_drinks 19 = .ok (.ifCond .eq 13, 3) := by decide +kernel
theorem dX11_drinks_22 : decode cX11_drinks 22 = .ok (.iload_n 3, 1) := by decide +kernel
theorem dX11_drinks_23 : decode cX11_drinks 23 = .ok (.iconst 1, 1) := by decide +kernel
theorem dX11_drinks_24 : decode cX11_drinks 24 = .ok (.bipush 9, 2) := by decide +kernel
theorem dX11_drinks_26 : decode cX11_drinks 26 = .ok (.invokestatic 101, 3) := by decide +kernel
theorem dX11_drinks_29 : decode cX11_drinks 29 = .ok (.ifCond .ne 6, 3) := by decide +kernel
theorem dX11_drinks_32 : decode cX11_drinks 32 = .ok (.bipush (-2), 2) := by decide +kernel
theorem dX11_drinks_34 : decode cX11_drinks 34 = .ok (.ireturn, 1) := by decide +kernel
theorem dX11_drinks_35 : decode cX11_drinks 35 = .ok (.aload_n 0, 1) := by decide +kernel
theorem dX11_drinks_36 : decode cX11_drinks 36 = .ok (.getfield 37, 3) := by decide +kernel
theorem dX11_drinks_39 : decode cX11_drinks 39 = .ok (.getfield 120, 3) := by decide +kernel
theorem dX11_drinks_42 : decode cX11_drinks 42 = .ok (.ifnonnull 6, 3) := by decide +kernel
theorem dX11_drinks_45 : decode cX11_drinks 45 = .ok (.bipush (-3), 2) := by decide +kernel
theorem dX11_drinks_47 : decode cX11_drinks 47 = .ok (.ireturn, 1) := by decide +kernel
theorem dX11_drinks_48 : decode cX11_drinks 48 = .ok (.iload_n 1, 1) := by decide +kernel
theorem dX11_drinks_49 : decode cX11_drinks 49 = .ok (.aload_n 0, 1) := by decide +kernel
theorem dX11_drinks_50 : decode cX11_drinks 50 = .ok (.getfield 37, 3) := by decide +kernel
theorem dX11_drinks_53 : decode cX11_drinks 53 = .ok (.getfield 120, 3) := by decide +kernel
theorem dX11_drinks_56 : decode cX11_drinks 56 = .ok (.getfield 134, 3) := by decide +kernel
theorem dX11_drinks_59 : decode cX11_drinks 59 = .ok (.if_icmp .gt 19, 3) := by decide +kernel
theorem dX11_drinks_62 : decode cX11_drinks 62 = .ok (.aload_n 0, 1) := by decide +kernel
theorem dX11_drinks_63 : decode cX11_drinks 63 = .ok (.getfield 37, 3) := by decide +kernel
theorem dX11_drinks_66 : decode cX11_drinks 66 = .ok (.getfield 120, 3) := by decide +kernel
theorem dX11_drinks_69 : decode cX11_drinks 69 = .ok (.iload_n 1, 1) := by decide +kernel
theorem dX11_drinks_70 : decode cX11_drinks 70 = .ok (.iload_n 2, 1) := by decide +kernel
theorem dX11_drinks_71 : decode cX11_drinks 71 = .ok (.iload_n 3, 1) := by decide +kernel
theorem dX11_drinks_72 : decode cX11_drinks 72 = .ok (.invokevirtual 149, 3) := by decide +kernel
theorem dX11_drinks_75 : decode cX11_drinks 75 = .ok (.goto 4, 3) := by decide +kernel
theorem dX11_drinks_78 : decode cX11_drinks 78 = .ok (.iconst (-1), 1) := by decide +kernel
theorem dX11_drinks_79 : decode cX11_drinks 79 = .ok (.ireturn, 1) := by decide +kernel
theorem dX11_odds_0 : decode cX11_odds 0 = .ok (.iload_n 1, 1) := by decide +kernel
theorem dX11_odds_1 : decode cX11_odds 1 = .ok (.iconst 0, 1) := by decide +kernel
theorem dX11_odds_2 : decode cX11_odds 2 = .ok (.iconst 4, 1) := by decide +kernel
theorem dX11_odds_3 : decode cX11_odds 3 = .ok (.invokestatic 101, 3) := by decide +kernel
theorem dX11_odds_6 : decode cX11_odds 6 = .ok (.ifCond .ne 5, 3) := by decide +kernel
theorem dX11_odds_9 : decode cX11_odds 9 = .ok (.iconst (-1), 1) := by decide +kernel
theorem dX11_odds_10 : decode cX11_odds 10 = .ok (.ireturn, 1) := by decide +kernel
theorem dX11_odds_11 : decode cX11_odds 11 = .ok (.iload_n 2, 1) := by decide +kernel
theorem dX11_odds_12 : decode cX11_odds 12 = .ok (.iconst 0, 1) := by decide +kernel
theorem dX11_odds_13 : decode cX11_odds 13 = .ok (.bipush 10, 2) := by decide +kernel
theorem dX11_odds_15 : decode cX11_odds 15 = .ok (.invokestatic 101, 3) := by decide +kernel
theorem dX11_odds_18 : decode cX11_odds 18 = .ok (.ifCond .ne 6, 3) := by decide +kernel
theorem dX11_odds_21 : decode cX11_odds 21 = .ok (.bipush (-2), 2) := by decide +kernel
theorem dX11_odds_23 : decode cX11_odds 23 = .ok (.ireturn, 1) := by decide +kernel
theorem dX11_odds_24 : decode cX11_odds 24 = .ok (.aload_n 0, 1) := by decide +kernel
theorem dX11_odds_25 : decode cX11_odds 25 = .ok (.getfield 37, 3) := by decide +kernel
theorem dX11_odds_28 : decode cX11_odds 28 = .ok (.getfield 153, 3) := by decide +kernel
theorem dX11_odds_31 : decode cX11_odds 31 = .ok (.iload_n 1, 1) := by decide +kernel
theorem dX11_odds_32 : decode cX11_odds 32 = .ok (.iaload, 1) := by decide +kernel
theorem dX11_odds_33 : decode cX11_odds 33 = .ok (.istore_n 3, 1) := by decide +kernel
theorem dX11_odds_34 : decode cX11_odds 34 = .ok (.aload_n 0, 1) := by decide +kernel
theorem dX11_odds_35 : decode cX11_odds 35 = .ok (.getfield 37, 3) := by decide +kernel
theorem dX11_odds_38 : decode cX11_odds 38 = .ok (.getfield 153, 3) := by decide +kernel
theorem dX11_odds_41 : decode cX11_odds 41 = .ok (.iload_n 1, 1) := by decide +kernel
theorem dX11_odds_42 : decode cX11_odds 42 = .ok (.iload_n 2, 1) := by decide +kernel
theorem dX11_odds_43 : decode cX11_odds 43 = .ok (.iastore, 1) := by decide +kernel
theorem dX11_odds_44 : decode cX11_odds 44 = .ok (.iload_n 3, 1) := by decide +kernel
theorem dX11_odds_45 : decode cX11_odds 45 = .ok (.ireturn, 1) := by decide +kernel
theorem dX11_ever_0 : decode cX11_ever 0 = .ok (.iload_n 1, 1) := by decide +kernel
theorem dX11_ever_1 : decode cX11_ever 1 = .ok (.iconst 0, 1) := by decide +kernel
theorem dX11_ever_2 : decode cX11_ever 2 = .ok (.sipush 999, 3) := by decide +kernel
theorem dX11_ever_5 : decode cX11_ever 5 = .ok (.invokestatic 101, 3) := by decide +kernel
theorem dX11_ever_8 : decode cX11_ever 8 = .ok (.ifCond .ne 6, 3) := by decide +kernel
theorem dX11_ever_11 : decode cX11_ever 11 = .ok (.bipush (-2), 2) := by decide +kernel
theorem dX11_ever_13 : decode cX11_ever 13 = .ok (.ireturn, 1) := by decide +kernel
theorem dX11_ever_14 : decode cX11_ever 14 = .ok (.aload_n 0, 1) := by decide +kernel
theorem dX11_ever_15 : decode cX11_ever 15 = .ok (.getfield 37, 3) := by decide +kernel
theorem dX11_ever_18 : decode cX11_ever 18 = .ok (.getfield 120, 3) := by decide +kernel
theorem dX11_ever_21 : decode cX11_ever 21 = .ok (.astore_n 2, 1) := by decide +kernel
theorem dX11_ever_22 : decode cX11_ever 22 = .ok (.aload_n 2, 1) := by decide +kernel
theorem dX11_ever_23 : decode cX11_ever 23 = .ok (.ifnonnull 6, 3) := by decide +kernel
theorem dX11_ever_26 : decode cX11_ever 26 = .ok (.bipush (-3), 2) := by decide +kernel
theorem dX11_ever_28 : decode cX11_ever 28 = .ok (.ireturn, 1) := by decide +kernel
theorem dX11_ever_29 : decode cX11_ever 29 = .ok (.iconst 0, 1) := by decide +kernel
theorem dX11_ever_30 : decode cX11_ever 30 = .ok (.istore_n 3, 1) := by decide +kernel
theorem dX11_ever_31 : decode cX11_ever 31 = .ok (.iconst 0, 1) := by decide +kernel
theorem dX11_ever_32 : decode cX11_ever 32 = .ok (.istore 4, 2) := by decide +kernel
theorem dX11_ever_34 : decode cX11_ever 34 = .ok (.iload 4, 2) := by decide +kernel
theorem dX11_ever_36 : decode cX11_ever 36 = .ok (.aload_n 2, 1) := by decide +kernel
theorem dX11_ever_37 : decode cX11_ever 37 = .ok (.getfield 134, 3) := by decide +kernel
theorem dX11_ever_40 : decode cX11_ever 40 = .ok (.if_icmp .ge 39, 3) := by decide +kernel
theorem dX11_ever_43 : decode cX11_ever 43 = .ok (.iload_n 3, 1) := by decide +kernel
theorem dX11_ever_44 : decode cX11_ever 44 = .ok (.aload_n 2, 1) := by decide +kernel
theorem dX11_ever_45 : decode cX11_ever 45 = .ok (.getfield 136, 3) := by decide +kernel
theorem dX11_ever_48 : decode cX11_ever 48 = .ok (.iload 4, 2) := by decide +kernel
theorem dX11_ever_50 : decode cX11_ever 50 = .ok (.iaload, 1) := by decide +kernel
theorem dX11_ever_51 : decode cX11_ever 51 = .ok (.iload_n 1, 1) := by decide +kernel
theorem dX11_ever_52 : decode cX11_ever 52 = .ok (.aload_n 2, 1) := by decide +kernel
theorem dX11_ever_53 : decode cX11_ever 53 = .ok (.getfield 136, 3) := by decide +kernel
theorem dX11_ever_56 : decode cX11_ever 56 = .ok (.iload 4, 2) := by decide +kernel
theorem dX11_ever_58 : decode cX11_ever 58 = .ok (.iaload, 1) := by decide +kernel
theorem dX11_ever_59 : decode cX11_ever 59 = .ok (.aload_n 2, 1) := by decide +kernel
theorem dX11_ever_60 : decode cX11_ever 60 = .ok (.getfield 139, 3) := by decide +kernel
theorem dX11_ever_63 : decode cX11_ever 63 = .ok (.iload 4, 2) := by decide +kernel
theorem dX11_ever_65 : decode cX11_ever 65 = .ok (.iaload, 1) := by decide +kernel
theorem dX11_ever_66 : decode cX11_ever 66 = .ok (.invokestatic 156, 3) := by decide +kernel
theorem dX11_ever_69 : decode cX11_ever 69 = .ok (.imul, 1) := by decide +kernel
theorem dX11_ever_70 : decode cX11_ever 70 = .ok (.iadd, 1) := by decide +kernel
theorem dX11_ever_71 : decode cX11_ever 71 = .ok (.iadd, 1) := by decide +kernel
theorem dX11_ever_72 : decode cX11_ever 72 = .ok (.istore_n 3, 1) := by decide +kernel
theorem dX11_ever_73 : decode cX11_ever 73 = .ok (.iinc 4 1, 3) := by decide +kernel
theorem dX11_ever_76 : decode cX11_ever 76 = .ok (.goto (-42), 3) := by decide +kernel
theorem dX11_ever_79 : decode cX11_ever 79 = .ok (.iload_n 3, 1) := by decide +kernel
theorem dX11_ever_80 : decode cX11_ever 80 = .ok (.ireturn, 1) := by decide +kernel
theorem dX11_rule_0 : decode cX11_rule 0 = .ok (.iload_n 1, 1) := by decide +kernel
theorem dX11_rule_1 : decode cX11_rule 1 = .ok (.iconst 0, 1) := by decide +kernel
theorem dX11_rule_2 : decode cX11_rule 2 = .ok (.bipush 6, 2) := by decide +kernel
theorem dX11_rule_4 : decode cX11_rule 4 = .ok (.invokestatic 101, 3) := by decide +kernel
theorem dX11_rule_7 : decode cX11_rule 7 = .ok (.ifCond .ne 5, 3) := by decide +kernel
theorem dX11_rule_10 : decode cX11_rule 10 = .ok (.iconst (-1), 1) := by decide +kernel
theorem dX11_rule_11 : decode cX11_rule 11 = .ok (.ireturn, 1) := by decide +kernel
theorem dX11_rule_12 : decode cX11_rule 12 = .ok (.iload_n 2, 1) := by decide +kernel
theorem dX11_rule_13 : decode cX11_rule 13 = .ok (.iconst 0, 1) := by decide +kernel
theorem dX11_rule_14 : decode cX11_rule 14 = .ok (.bipush 6, 2) := by decide +kernel
theorem dX11_rule_16 : decode cX11_rule 16 = .ok (.invokestatic 101, 3) := by decide +kernel
theorem dX11_rule_19 : decode cX11_rule 19 = .ok (.ifCond .ne 6, 3) := by decide +kernel
theorem dX11_rule_22 : decode cX11_rule 22 = .ok (.bipush (-2), 2) := by decide +kernel
theorem dX11_rule_24 : decode cX11_rule 24 = .ok (.ireturn, 1) := by decide +kernel
theorem dX11_rule_25 : decode cX11_rule 25 = .ok (.aload_n 0, 1) := by decide +kernel
theorem dX11_rule_26 : decode cX11_rule 26 = .ok (.getfield 161, 3) := by decide +kernel
theorem dX11_rule_29 : decode cX11_rule 29 = .ok (.bipush 10, 2) := by decide +kernel
theorem dX11_rule_31 : decode cX11_rule 31 = .ok (.if_icmp .lt 6, 3) := by decide +kernel
theorem dX11_rule_34 : decode cX11_rule 34 = .ok (.bipush (-4), 2) := by decide +kernel
theorem dX11_rule_36 : decode cX11_rule 36 = .ok (.ireturn, 1) := by decide +kernel
theorem dX11_rule_37 : decode cX11_rule 37 = .ok (.aload_n 0, 1) := by decide +kernel
theorem dX11_rule_38 : decode cX11_rule 38 = .ok (.getfield 24, 3) := by decide +kernel
theorem dX11_rule_41 : decode cX11_rule 41 = .ok (.aload_n 0, 1) := by decide +kernel
theorem dX11_rule_42 : decode cX11_rule 42 = .ok (.getfield 161, 3) := by decide +kernel
theorem dX11_rule_45 : decode cX11_rule 45 = .ok (.new 22, 3) := by decide +kernel
theorem dX11_rule_48 : decode cX11_rule 48 = .ok (.dup, 1) := by decide +kernel
theorem dX11_rule_49 : decode cX11_rule 49 = .ok (.iload_n 1, 1) := by decide +kernel
theorem dX11_rule_50 : decode cX11_rule 50 = .ok (.aload_n 0, 1) := by decide +kernel
theorem dX11_rule_51 : decode cX11_rule 51 = .ok (.getfield 161, 3) := by decide +kernel
theorem dX11_rule_54 : decode cX11_rule 54 = .ok (.iload_n 2, 1) := by decide +kernel
theorem dX11_rule_55 : decode cX11_rule 55 = .ok (.invokespecial 164, 3) := by decide +kernel
theorem dX11_rule_58 : decode cX11_rule 58 = .ok (.aastore, 1) := by decide +kernel
theorem dX11_rule_59 : decode cX11_rule 59 = .ok (.aload_n 0, 1) := by decide +kernel
theorem dX11_rule_60 : decode cX11_rule 60 = .ok (.dup, 1) := by decide +kernel
theorem dX11_rule_61 : decode cX11_rule 61 = .ok (.getfield 161, 3) := by decide +kernel
theorem dX11_rule_64 : decode cX11_rule 64 = .ok (.iconst 1, 1) := by decide +kernel
theorem dX11_rule_65 : decode cX11_rule 65 = .ok (.iadd, 1) := by decide +kernel
theorem dX11_rule_66 : decode cX11_rule 66 = .ok (.putfield 161, 3) := by decide +kernel
theorem dX11_rule_69 : decode cX11_rule 69 = .ok (.aload_n 0, 1) := by decide +kernel
theorem dX11_rule_70 : decode cX11_rule 70 = .ok (.getfield 161, 3) := by decide +kernel
theorem dX11_rule_73 : decode cX11_rule 73 = .ok (.iconst 1, 1) := by decide +kernel
theorem dX11_rule_74 : decode cX11_rule 74 = .ok (.isub, 1) := by decide +kernel
theorem dX11_rule_75 : decode cX11_rule 75 = .ok (.ireturn, 1) := by decide +kernel
theorem dX11_row_0 : decode cX11_row 0 = .ok (.aload_n 0, 1) := by decide +kernel
theorem dX11_row_1 : decode cX11_row 1 = .ok (.iload_n 1, 1) := by decide +kernel
theorem dX11_row_2 : decode cX11_row 2 = .ok (.invokevirtual 167, 3) := by decide +kernel
theorem dX11_row_5 : decode cX11_row 5 = .ok (.astore_n 3, 1) := by decide +kernel
theorem dX11_row_6 : decode cX11_row 6 = .ok (.aload_n 3, 1) := by decide +kernel
theorem dX11_row_7 : decode cX11_row 7 = .ok (.ifnonnull 5, 3) := by decide +kernel
theorem dX11_row_10 : decode cX11_row 10 = .ok (.iconst (-1), 1) := by decide +kernel
theorem dX11_row_11 : decode cX11_row 11 = .ok (.ireturn, 1) := by decide +kernel
theorem dX11_row_12 : decode cX11_row 12 = .ok (.iload_n 2, 1) := by decide +kernel
theorem dX11_row_13 : decode cX11_row 13 = .ok (.iconst 0, 1) := by decide +kernel
theorem dX11_row_14 : decode cX11_row 14 = .ok (.bipush 6, 2) := by decide +kernel
theorem dX11_row_16 : decode cX11_row 16 = .ok (.invokestatic 101, 3) := by decide +kernel
theorem dX11_row_19 : decode cX11_row 19 = .ok (.ifCond .ne 6, 3) := by decide +kernel
theorem dX11_row_22 : decode cX11_row 22 = .ok (.bipush (-2), 2) := by decide +kernel
theorem dX11_row_24 : decode cX11_row 24 = .ok (.ireturn, 1) := by decide +kernel
theorem dX11_row_25 : decode cX11_row 25 = .ok (.aload_n 3, 1) := by decide +kernel
theorem dX11_row_26 : decode cX11_row 26 = .ok (.getfield 171, 3) := by decide +kernel
theorem dX11_row_29 : decode cX11_row 29 = .ok (.iconst 3, 1) := by decide +kernel
theorem dX11_row_30 : decode cX11_row 30 = .ok (.if_icmp .eq 6, 3) := by decide +kernel
theorem dX11_row_33 : decode cX11_row 33 = .ok (.bipush (-3), 2) := by decide +kernel
theorem dX11_row_35 : decode cX11_row 35 = .ok (.ireturn, 1) := by decide +kernel
theorem dX11_row_36 : decode cX11_row 36 = .ok (.aload_n 3, 1) := by decide +kernel
theorem dX11_row_37 : decode cX11_row 37 = .ok (.getfield 174, 3) := by decide +kernel
theorem dX11_row_40 : decode cX11_row 40 = .ok (.iconst 5, 1) := by decide +kernel
theorem dX11_row_41 : decode cX11_row 41 = .ok (.if_icmp .lt 6, 3) := by decide +kernel
theorem dX11_row_44 : decode cX11_row 44 = .ok (.bipush (-4), 2) := by decide +kernel
theorem dX11_row_46 : decode cX11_row 46 = .ok (.ireturn, 1) := by decide +kernel
theorem dX11_row_47 : decode cX11_row 47 = .ok (.aload_n 3, 1) := by decide +kernel
theorem dX11_row_48 : decode cX11_row 48 = .ok (.getfield 177, 3) := by decide +kernel
theorem dX11_row_51 : decode cX11_row 51 = .ok (.aload_n 3, 1) := by decide +kernel
theorem dX11_row_52 : decode cX11_row 52 = .ok (.getfield 174, 3) := by decide +kernel
theorem dX11_row_55 : decode cX11_row 55 = .ok (.iload_n 2, 1) := by decide +kernel
theorem dX11_row_56 : decode cX11_row 56 = .ok (.iastore, 1) := by decide +kernel
theorem dX11_row_57 : decode cX11_row 57 = .ok (.aload_n 3, 1) := by decide +kernel
theorem dX11_row_58 : decode cX11_row 58 = .ok (.dup, 1) := by decide +kernel
theorem dX11_row_59 : decode cX11_row 59 = .ok (.getfield 174, 3) := by decide +kernel
theorem dX11_row_62 : decode cX11_row 62 = .ok (.iconst 1, 1) := by decide +kernel
theorem dX11_row_63 : decode cX11_row 63 = .ok (.iadd, 1) := by decide +kernel
theorem dX11_row_64 : decode cX11_row 64 = .ok (.putfield 174, 3) := by decide +kernel
theorem dX11_row_67 : decode cX11_row 67 = .ok (.aload_n 3, 1) := by decide +kernel
theorem dX11_row_68 : decode cX11_row 68 = .ok (.getfield 174, 3) := by decide +kernel
theorem dX11_row_71 : decode cX11_row 71 = .ok (.ireturn, 1) := by decide +kernel
theorem dX11_caravan_0 : decode cX11_caravan 0 = .ok (.aload_n 0, 1) := by decide +kernel
theorem dX11_caravan_1 : decode cX11_caravan 1 = .ok (.iload_n 3, 1) := by decide +kernel
theorem dX11_caravan_2 : decode cX11_caravan 2 = .ok (.invokevirtual 167, 3) := by decide +kernel
theorem dX11_caravan_5 : decode cX11_caravan 5 = .ok (.astore 4, 2) := by decide +kernel
theorem dX11_caravan_7 : decode cX11_caravan 7 = .ok (.aload 4, 2) := by decide +kernel
theorem dX11_caravan_9 : decode cX11_caravan 9 = .ok (.ifnonnull 5, 3) := by decide +kernel
theorem dX11_caravan_12 : decode cX11_caravan 12 = .ok (.iconst (-1), 1) := by decide +kernel
theorem dX11_caravan_13 : decode cX11_caravan 13 = .ok (.ireturn, 1) := by decide +kernel
theorem dX11_caravan_14 : decode cX11_caravan 14 = .ok (.iload_n 1, 1) := by decide +kernel
theorem dX11_caravan_15 : decode cX11_caravan 15 = .ok (.iconst 1, 1) := by decide +kernel
theorem dX11_caravan_16 : decode cX11_caravan 16 = .ok (.bipush 9, 2) := by decide +kernel
theorem dX11_caravan_18 : decode cX11_caravan 18 = .ok (.invokestatic 101, 3) := by decide +kernel
theorem dX11_caravan_21 : decode cX11_caravan 21 = .ok (.ifCond .eq 13, 3) := by decide +kernel
theorem dX11_caravan_24 : decode cX11_caravan 24 = .ok (.iload_n 2, 1) := by decide +kernel
theorem dX11_caravan_25 : decode cX11_caravan 25 = .ok (.iconst 0, 1) := by decide +kernel
theorem dX11_caravan_26 : decode cX11_caravan 26 = .ok (.bipush 99, 2) := by decide +kernel
theorem dX11_caravan_28 : decode cX11_caravan 28 = .ok (.invokestatic 101, 3) := by decide +kernel
theorem dX11_caravan_31 : decode cX11_caravan 31 = .ok (.ifCond .ne 6, 3) := by decide +kernel
theorem dX11_caravan_34 : decode cX11_caravan 34 = .ok (.bipush (-2), 2) := by decide +kernel
theorem dX11_caravan_36 : decode cX11_caravan 36 = .ok (.ireturn, 1) := by decide +kernel
theorem dX11_caravan_37 : decode cX11_caravan 37 = .ok (.aload_n 0, 1) := by decide +kernel
theorem dX11_caravan_38 : decode cX11_caravan 38 = .ok (.getfield 180, 3) := by decide +kernel
theorem dX11_caravan_41 : decode cX11_caravan 41 = .ok (.bipush 6, 2) := by decide +kernel
theorem dX11_caravan_43 : decode cX11_caravan 43 = .ok (.if_icmp .lt 6, 3) := by decide +kernel
theorem dX11_caravan_46 : decode cX11_caravan 46 = .ok (.bipush (-4), 2) := by decide +kernel
theorem dX11_caravan_48 : decode cX11_caravan 48 = .ok (.ireturn, 1) := by decide +kernel
theorem dX11_caravan_49 : decode cX11_caravan 49 = .ok (.new 28, 3) := by decide +kernel
theorem dX11_caravan_52 : decode cX11_caravan 52 = .ok (.dup, 1) := by decide +kernel
theorem dX11_caravan_53 : decode cX11_caravan 53 = .ok (.invokespecial 91, 3) := by decide +kernel
theorem dX11_caravan_56 : decode cX11_caravan 56 = .ok (.astore 5, 2) := by decide +kernel
theorem dX11_caravan_58 : decode cX11_caravan 58 = .ok (.aload 5, 2) := by decide +kernel
theorem dX11_caravan_60 : decode cX11_caravan 60 = .ok (.iload_n 1, 1) := by decide +kernel
theorem dX11_caravan_61 : decode cX11_caravan 61 = .ok (.iload_n 2, 1) := by decide +kernel
theorem dX11_caravan_62 : decode cX11_caravan 62 = .ok (.aload 4, 2) := by decide +kernel
theorem dX11_caravan_64 : decode cX11_caravan 64 = .ok (.invokevirtual 183, 3) := by decide +kernel
theorem dX11_caravan_67 : decode cX11_caravan 67 = .ok (.aload_n 0, 1) := by decide +kernel
theorem dX11_caravan_68 : decode cX11_caravan 68 = .ok (.getfield 30, 3) := by decide +kernel
theorem dX11_caravan_71 : decode cX11_caravan 71 = .ok (.aload_n 0, 1) := by decide +kernel
theorem dX11_caravan_72 : decode cX11_caravan 72 = .ok (.getfield 180, 3) := by decide +kernel
theorem dX11_caravan_75 : decode cX11_caravan 75 = .ok (.aload 5, 2) := by decide +kernel
theorem dX11_caravan_77 : decode cX11_caravan 77 = .ok (.aastore, 1) := by decide +kernel
theorem dX11_caravan_78 : decode cX11_caravan 78 = .ok (.aload_n 0, 1) := by decide +kernel
theorem dX11_caravan_79 : decode cX11_caravan 79 = .ok (.dup, 1) := by decide +kernel
theorem dX11_caravan_80 : decode cX11_caravan 80 = .ok (.getfield 180, 3) := by decide +kernel
theorem dX11_caravan_83 : decode cX11_caravan 83 = .ok (.iconst 1, 1) := by decide +kernel
theorem dX11_caravan_84 : decode cX11_caravan 84 = .ok (.iadd, 1) := by decide +kernel
theorem dX11_caravan_85 : decode cX11_caravan 85 = .ok (.putfield 180, 3) := by decide +kernel
theorem dX11_caravan_88 : decode cX11_caravan 88 = .ok (.aload_n 0, 1) := by decide +kernel
theorem dX11_caravan_89 : decode cX11_caravan 89 = .ok (.getfield 180, 3) := by decide +kernel
theorem dX11_caravan_92 : decode cX11_caravan 92 = .ok (.iconst 1, 1) := by decide +kernel
theorem dX11_caravan_93 : decode cX11_caravan 93 = .ok (.isub, 1) := by decide +kernel
theorem dX11_caravan_94 : decode cX11_caravan 94 = .ok (.ireturn, 1) := by decide +kernel
theorem dX11_would_0 : decode cX11_would 0 = .ok (.aload_n 0, 1) := by decide +kernel
theorem dX11_would_1 : decode cX11_would 1 = .ok (.iload_n 1, 1) := by decide +kernel
theorem dX11_would_2 : decode cX11_would 2 = .ok (.invokevirtual 187, 3) := by decide +kernel
theorem dX11_would_5 : decode cX11_would 5 = .ok (.astore_n 3, 1) := by decide +kernel
theorem dX11_would_6 : decode cX11_would 6 = .ok (.aload_n 3, 1) := by decide +kernel
theorem dX11_would_7 : decode cX11_would 7 = .ok (.ifnull 10, 3) := by decide +kernel
theorem dX11_would_10 : decode cX11_would 10 = .ok (.iload_n 2, 1) := by decide +kernel
theorem dX11_would_11 : decode cX11_would 11 = .ok (.invokestatic 191, 3) := by decide +kernel
theorem dX11_would_14 : decode cX11_would 14 = .ok (.ifCond .ne 5, 3) := by decide +kernel
theorem dX11_would_17 : decode cX11_would 17 = .ok (.iconst (-1), 1) := by decide +kernel
theorem dX11_would_18 : decode cX11_would 18 = .ok (.ireturn, 1) := by decide +kernel
theorem dX11_would_19 : decode cX11_would 19 = .ok (.aload_n 0, 1) := by decide +kernel
theorem dX11_would_20 : decode cX11_would 20 = .ok (.getfield 37, 3) := by decide +kernel
theorem dX11_would_23 : decode cX11_would 23 = .ok (.getfield 120, 3) := by decide +kernel
theorem dX11_would_26 : decode cX11_would 26 = .ok (.ifnonnull 6, 3) := by decide +kernel
theorem dX11_would_29 : decode cX11_would 29 = .ok (.bipush (-3), 2) := by decide +kernel
theorem dX11_would_31 : decode cX11_would 31 = .ok (.ireturn, 1) := by decide +kernel
theorem dX11_would_32 : decode cX11_would 32 = .ok (.aload_n 0, 1) := by decide +kernel
theorem dX11_would_33 : decode cX11_would 33 = .ok (.getfield 81, 3) := by decide +kernel
theorem dX11_would_36 : decode cX11_would 36 = .ok (.aload_n 0, 1) := by decide +kernel
theorem dX11_would_37 : decode cX11_would 37 = .ok (.getfield 37, 3) := by decide +kernel
theorem dX11_would_40 : decode cX11_would 40 = .ok (.getfield 123, 3) := by decide +kernel
theorem dX11_would_43 : decode cX11_would 43 = .ok (.invokevirtual 195, 3) := by decide +kernel
theorem dX11_would_46 : decode cX11_would 46 = .ok (.aload_n 0, 1) := by decide +kernel
theorem dX11_would_47 : decode cX11_would 47 = .ok (.aload_n 0, 1) := by decide +kernel
theorem dX11_would_48 : decode cX11_would 48 = .ok (.getfield 37, 3) := by decide +kernel
theorem dX11_would_51 : decode cX11_would 51 = .ok (.getfield 120, 3) := by decide +kernel
theorem dX11_would_54 : decode cX11_would 54 = .ok (.aload_n 0, 1) := by decide +kernel
theorem dX11_would_55 : decode cX11_would 55 = .ok (.getfield 81, 3) := by decide +kernel
theorem dX11_would_58 : decode cX11_would 58 = .ok (.aload_n 3, 1) := by decide +kernel
theorem dX11_would_59 : decode cX11_would 59 = .ok (.invokevirtual 198, 3) := by decide +kernel
theorem dX11_would_62 : decode cX11_would 62 = .ok (.aload_n 0, 1) := by decide +kernel
theorem dX11_would_63 : decode cX11_would 63 = .ok (.iload_n 2, 1) := by decide +kernel
theorem dX11_would_64 : decode cX11_would 64 = .ok (.aload_n 3, 1) := by decide +kernel
theorem dX11_would_65 : decode cX11_would 65 = .ok (.getfield 202, 3) := by decide +kernel
theorem dX11_would_68 : decode cX11_would 68 = .ok (.invokevirtual 205, 3) := by decide +kernel
theorem dX11_would_71 : decode cX11_would 71 = .ok (.ireturn, 1) := by decide +kernel
theorem dX11_goes_0 : decode cX11_goes 0 = .ok (.aload_n 0, 1) := by decide +kernel
theorem dX11_goes_1 : decode cX11_goes 1 = .ok (.iload_n 1, 1) := by decide +kernel
theorem dX11_goes_2 : decode cX11_goes 2 = .ok (.invokevirtual 187, 3) := by decide +kernel
theorem dX11_goes_5 : decode cX11_goes 5 = .ok (.astore_n 2, 1) := by decide +kernel
theorem dX11_goes_6 : decode cX11_goes 6 = .ok (.aload_n 2, 1) := by decide +kernel
theorem dX11_goes_7 : decode cX11_goes 7 = .ok (.ifnonnull 5, 3) := by decide +kernel
theorem dX11_goes_10 : decode cX11_goes 10 = .ok (.iconst (-1), 1) := by decide +kernel
theorem dX11_goes_11 : decode cX11_goes 11 = .ok (.ireturn, 1) := by decide +kernel
theorem dX11_goes_12 : decode cX11_goes 12 = .ok (.aload_n 0, 1) := by decide +kernel
theorem dX11_goes_13 : decode cX11_goes 13 = .ok (.getfield 37, 3) := by decide +kernel
theorem dX11_goes_16 : decode cX11_goes 16 = .ok (.getfield 120, 3) := by decide +kernel
theorem dX11_goes_19 : decode cX11_goes 19 = .ok (.ifnonnull 6, 3) := by decide +kernel
theorem dX11_goes_22 : decode cX11_goes 22 = .ok (.bipush (-3), 2) := by decide +kernel
theorem dX11_goes_24 : decode cX11_goes 24 = .ok (.ireturn, 1) := by decide +kernel
theorem dX11_goes_25 : decode cX11_goes 25 = .ok (.aload_n 0, 1) := by decide +kernel
theorem dX11_goes_26 : decode cX11_goes 26 = .ok (.aload_n 0, 1) := by decide +kernel
theorem dX11_goes_27 : decode cX11_goes 27 = .ok (.getfield 37, 3) := by decide +kernel
theorem dX11_goes_30 : decode cX11_goes 30 = .ok (.getfield 120, 3) := by decide +kernel
theorem dX11_goes_33 : decode cX11_goes 33 = .ok (.aload_n 0, 1) := by decide +kernel
theorem dX11_goes_34 : decode cX11_goes 34 = .ok (.getfield 37, 3) := by decide +kernel
theorem dX11_goes_37 : decode cX11_goes 37 = .ok (.getfield 123, 3) := by decide +kernel
theorem dX11_goes_40 : decode cX11_goes 40 = .ok (.aload_n 2, 1) := by decide +kernel
theorem dX11_goes_41 : decode cX11_goes 41 = .ok (.invokevirtual 198, 3) := by decide +kernel
theorem dX11_goes_44 : decode cX11_goes 44 = .ok (.aload_n 0, 1) := by decide +kernel
theorem dX11_goes_45 : decode cX11_goes 45 = .ok (.getfield 60, 3) := by decide +kernel
theorem dX11_goes_48 : decode cX11_goes 48 = .ok (.getfield 208, 3) := by decide +kernel
theorem dX11_goes_51 : decode cX11_goes 51 = .ok (.ireturn, 1) := by decide +kernel
theorem dX11_hand_0 : decode cX11_hand 0 = .ok (.iload_n 1, 1) := by decide +kernel
theorem dX11_hand_1 : decode cX11_hand 1 = .ok (.iconst (-1), 1) := by decide +kernel
theorem dX11_hand_2 : decode cX11_hand 2 = .ok (.if_icmp .ne 12, 3) := by decide +kernel
theorem dX11_hand_5 : decode cX11_hand 5 = .ok (.aload_n 0, 1) := by decide +kernel
theorem dX11_hand_6 : decode cX11_hand 6 = .ok (.getfield 37, 3) := by decide +kernel
theorem dX11_hand_9 : decode cX11_hand 9 = .ok (.invokevirtual 211, 3) := by decide +kernel
theorem dX11_hand_12 : decode cX11_hand 12 = .ok (.iconst 0, 1) := by decide +kernel
theorem dX11_hand_13 : decode cX11_hand 13 = .ok (.ireturn, 1) := by decide +kernel
theorem dX11_hand_14 : decode cX11_hand 14 = .ok (.iload_n 1, 1) := by decide +kernel
theorem dX11_hand_15 : decode cX11_hand 15 = .ok (.iconst 0, 1) := by decide +kernel
theorem dX11_hand_16 : decode cX11_hand 16 = .ok (.bipush 6, 2) := by decide +kernel
theorem dX11_hand_18 : decode cX11_hand 18 = .ok (.invokestatic 101, 3) := by decide +kernel
theorem dX11_hand_21 : decode cX11_hand 21 = .ok (.ifCond .ne 6, 3) := by decide +kernel
theorem dX11_hand_24 : decode cX11_hand 24 = .ok (.bipush (-2), 2) := by decide +kernel
theorem dX11_hand_26 : decode cX11_hand 26 = .ok (.ireturn, 1) := by decide +kernel
theorem dX11_hand_27 : decode cX11_hand 27 = .ok (.aload_n 0, 1) := by decide +kernel
theorem dX11_hand_28 : decode cX11_hand 28 = .ok (.getfield 37, 3) := by decide +kernel
theorem dX11_hand_31 : decode cX11_hand 31 = .ok (.getfield 214, 3) := by decide +kernel
theorem dX11_hand_34 : decode cX11_hand 34 = .ok (.iconst 5, 1) := by decide +kernel
theorem dX11_hand_35 : decode cX11_hand 35 = .ok (.if_icmp .lt 6, 3) := by decide +kernel
theorem dX11_hand_38 : decode cX11_hand 38 = .ok (.bipush (-4), 2) := by decide +kernel
theorem dX11_hand_40 : decode cX11_hand 40 = .ok (.ireturn, 1) := by decide +kernel
theorem dX11_hand_41 : decode cX11_hand 41 = .ok (.aload_n 0, 1) := by decide +kernel
theorem dX11_hand_42 : decode cX11_hand 42 = .ok (.getfield 37, 3) := by decide +kernel
theorem dX11_hand_45 : decode cX11_hand 45 = .ok (.getfield 217, 3) := by decide +kernel
theorem dX11_hand_48 : decode cX11_hand 48 = .ok (.aload_n 0, 1) := by decide +kernel
theorem dX11_hand_49 : decode cX11_hand 49 = .ok (.getfield 37, 3) := by decide +kernel
theorem dX11_hand_52 : decode cX11_hand 52 = .ok (.getfield 214, 3) := by decide +kernel
theorem dX11_hand_55 : decode cX11_hand 55 = .ok (.iload_n 1, 1) := by decide +kernel
theorem dX11_hand_56 : decode cX11_hand 56 = .ok (.iastore, 1) := by decide +kernel
theorem dX11_hand_57 : decode cX11_hand 57 = .ok (.aload_n 0, 1) := by decide +kernel
theorem dX11_hand_58 : decode cX11_hand 58 = .ok (.getfield 37, 3) := by decide +kernel
theorem dX11_hand_61 : decode cX11_hand 61 = .ok (.dup, 1) := by decide +kernel
theorem dX11_hand_62 : decode cX11_hand 62 = .ok (.getfield 214, 3) := by decide +kernel
theorem dX11_hand_65 : decode cX11_hand 65 = .ok (.iconst 1, 1) := by decide +kernel
theorem dX11_hand_66 : decode cX11_hand 66 = .ok (.iadd, 1) := by decide +kernel
theorem dX11_hand_67 : decode cX11_hand 67 = .ok (.putfield 214, 3) := by decide +kernel
theorem dX11_hand_70 : decode cX11_hand 70 = .ok (.aload_n 0, 1) := by decide +kernel
theorem dX11_hand_71 : decode cX11_hand 71 = .ok (.getfield 37, 3) := by decide +kernel
theorem dX11_hand_74 : decode cX11_hand 74 = .ok (.getfield 214, 3) := by decide +kernel
theorem dX11_hand_77 : decode cX11_hand 77 = .ok (.ireturn, 1) := by decide +kernel
theorem dX11_gone_0 : decode cX11_gone 0 = .ok (.aload_n 0, 1) := by decide +kernel
theorem dX11_gone_1 : decode cX11_gone 1 = .ok (.iload_n 1, 1) := by decide +kernel
theorem dX11_gone_2 : decode cX11_gone 2 = .ok (.invokevirtual 187, 3) := by decide +kernel
theorem dX11_gone_5 : decode cX11_gone 5 = .ok (.astore_n 3, 1) := by decide +kernel
theorem dX11_gone_6 : decode cX11_gone 6 = .ok (.aload_n 3, 1) := by decide +kernel
theorem dX11_gone_7 : decode cX11_gone 7 = .ok (.ifnull 10, 3) := by decide +kernel
theorem dX11_gone_10 : decode cX11_gone 10 = .ok (.iload_n 2, 1) := by decide +kernel
theorem dX11_gone_11 : decode cX11_gone 11 = .ok (.invokestatic 191, 3) := by decide +kernel
theorem dX11_gone_14 : decode cX11_gone 14 = .ok (.ifCond .ne 5, 3) := by decide +kernel
theorem dX11_gone_17 : decode cX11_gone 17 = .ok (.iconst (-1), 1) := by decide +kernel
theorem dX11_gone_18 : decode cX11_gone 18 = .ok (.ireturn, 1) := by decide +kernel
theorem dX11_gone_19 : decode cX11_gone 19 = .ok (.aload_n 0, 1) := by decide +kernel
theorem dX11_gone_20 : decode cX11_gone 20 = .ok (.getfield 37, 3) := by decide +kernel
theorem dX11_gone_23 : decode cX11_gone 23 = .ok (.getfield 120, 3) := by decide +kernel
theorem dX11_gone_26 : decode cX11_gone 26 = .ok (.ifnonnull 6, 3) := by decide +kernel
theorem dX11_gone_29 : decode cX11_gone 29 = .ok (.bipush (-3), 2) := by decide +kernel
theorem dX11_gone_31 : decode cX11_gone 31 = .ok (.ireturn, 1) := by decide +kernel
theorem dX11_gone_32 : decode cX11_gone 32 = .ok (.aload_n 0, 1) := by decide +kernel
theorem dX11_gone_33 : decode cX11_gone 33 = .ok (.getfield 81, 3) := by decide +kernel
theorem dX11_gone_36 : decode cX11_gone 36 = .ok (.aload_n 0, 1) := by decide +kernel
theorem dX11_gone_37 : decode cX11_gone 37 = .ok (.getfield 37, 3) := by decide +kernel
theorem dX11_gone_40 : decode cX11_gone 40 = .ok (.getfield 123, 3) := by decide +kernel
theorem dX11_gone_43 : decode cX11_gone 43 = .ok (.invokevirtual 195, 3) := by decide +kernel
theorem dX11_gone_46 : decode cX11_gone 46 = .ok (.aload_n 0, 1) := by decide +kernel
theorem dX11_gone_47 : decode cX11_gone 47 = .ok (.getfield 60, 3) := by decide +kernel
theorem dX11_gone_50 : decode cX11_gone 50 = .ok (.aload_n 0, 1) := by decide +kernel
theorem dX11_gone_51 : decode cX11_gone 51 = .ok (.getfield 37, 3) := by decide +kernel
theorem dX11_gone_54 : decode cX11_gone 54 = .ok (.getfield 120, 3) := by decide +kernel
theorem dX11_gone_57 : decode cX11_gone 57 = .ok (.aload_n 0, 1) := by decide +kernel
theorem dX11_gone_58 : decode cX11_gone 58 = .ok (.getfield 81, 3) := by decide +kernel
theorem dX11_gone_61 : decode cX11_gone 61 = .ok (.aload_n 3, 1) := by decide +kernel
theorem dX11_gone_62 : decode cX11_gone 62 = .ok (.aload_n 0, 1) := by decide +kernel
theorem dX11_gone_63 : decode cX11_gone 63 = .ok (.getfield 37, 3) := by decide +kernel
theorem dX11_gone_66 : decode cX11_gone 66 = .ok (.getfield 217, 3) := by decide +kernel
theorem dX11_gone_69 : decode cX11_gone 69 = .ok (.invokevirtual 220, 3) := by decide +kernel
theorem dX11_gone_72 : decode cX11_gone 72 = .ok (.aload_n 0, 1) := by decide +kernel
theorem dX11_gone_73 : decode cX11_gone 73 = .ok (.iload_n 2, 1) := by decide +kernel
theorem dX11_gone_74 : decode cX11_gone 74 = .ok (.aload_n 3, 1) := by decide +kernel
theorem dX11_gone_75 : decode cX11_gone 75 = .ok (.getfield 202, 3) := by decide +kernel
theorem dX11_gone_78 : decode cX11_gone 78 = .ok (.invokevirtual 205, 3) := by decide +kernel
theorem dX11_gone_81 : decode cX11_gone 81 = .ok (.ireturn, 1) := by decide +kernel
theorem dX11_size_0 : decode cX11_size 0 = .ok (.aload_n 0, 1) := by decide +kernel
theorem dX11_size_1 : decode cX11_size 1 = .ok (.iload_n 2, 1) := by decide +kernel
theorem dX11_size_2 : decode cX11_size 2 = .ok (.invokevirtual 167, 3) := by decide +kernel
theorem dX11_size_5 : decode cX11_size 5 = .ok (.astore 4, 2) := by decide +kernel
theorem dX11_size_7 : decode cX11_size 7 = .ok (.aload 4, 2) := by decide +kernel
theorem dX11_size_9 : decode cX11_size 9 = .ok (.ifnull 12, 3) := by decide +kernel
theorem dX11_size_12 : decode cX11_size 12 = .ok (.iload_n 3, 1) := by decide +kernel
theorem dX11_size_13 : decode cX11_size 13 = .ok (.iconst 0, 1) := by decide +kernel
theorem dX11_size_14 : decode cX11_size 14 = .ok (.iconst 1, 1) := by decide +kernel
theorem dX11_size_15 : decode cX11_size 15 = .ok (.invokestatic 101, 3) := by decide +kernel
theorem dX11_size_18 : decode cX11_size 18 = .ok (.ifCond .ne 5, 3) := by decide +kernel
theorem dX11_size_21 : decode cX11_size 21 = .ok (.iconst (-1), 1) := by decide +kernel
theorem dX11_size_22 : decode cX11_size 22 = .ok (.ireturn, 1) := by decide +kernel
theorem dX11_size_23 : decode cX11_size 23 = .ok (.iload_n 1, 1) := by decide +kernel
theorem dX11_size_24 : decode cX11_size 24 = .ok (.iconst 0, 1) := by decide +kernel
theorem dX11_size_25 : decode cX11_size 25 = .ok (.bipush 99, 2) := by decide +kernel
theorem dX11_size_27 : decode cX11_size 27 = .ok (.invokestatic 101, 3) := by decide +kernel
theorem dX11_size_30 : decode cX11_size 30 = .ok (.ifCond .ne 6, 3) := by decide +kernel
theorem dX11_size_33 : decode cX11_size 33 = .ok (.bipush (-2), 2) := by decide +kernel
theorem dX11_size_35 : decode cX11_size 35 = .ok (.ireturn, 1) := by decide +kernel
theorem dX11_size_36 : decode cX11_size 36 = .ok (.aload_n 0, 1) := by decide +kernel
theorem dX11_size_37 : decode cX11_size 37 = .ok (.getfield 37, 3) := by decide +kernel
theorem dX11_size_40 : decode cX11_size 40 = .ok (.getfield 120, 3) := by decide +kernel
theorem dX11_size_43 : decode cX11_size 43 = .ok (.ifnonnull 6, 3) := by decide +kernel
theorem dX11_size_46 : decode cX11_size 46 = .ok (.bipush (-3), 2) := by decide +kernel
theorem dX11_size_48 : decode cX11_size 48 = .ok (.ireturn, 1) := by decide +kernel
theorem dX11_size_49 : decode cX11_size 49 = .ok (.iconst (-1), 1) := by decide +kernel
theorem dX11_size_50 : decode cX11_size 50 = .ok (.istore 5, 2) := by decide +kernel
theorem dX11_size_52 : decode cX11_size 52 = .ok (.iconst 0, 1) := by decide +kernel
theorem dX11_size_53 : decode cX11_size 53 = .ok (.istore 6, 2) := by decide +kernel
theorem dX11_size_55 : decode cX11_size 55 = .ok (.iconst 0, 1) := by decide +kernel
theorem dX11_size_56 : decode cX11_size 56 = .ok (.istore 7, 2) := by decide +kernel
theorem dX11_size_58 : decode cX11_size 58 = .ok (.iconst 1, 1) := by decide +kernel
theorem dX11_size_59 : decode cX11_size 59 = .ok (.istore 8, 2) := by decide +kernel
theorem dX11_size_61 : decode cX11_size 61 = .ok (.iload 8, 2) := by decide +kernel
theorem dX11_size_63 : decode cX11_size 63 = .ok (.bipush 9, 2) := by decide +kernel
theorem dX11_size_65 : decode cX11_size 65 = .ok (.if_icmp .gt 110, 3) := by decide +kernel
theorem dX11_size_68 : decode cX11_size 68 = .ok (.aload_n 0, 1) := by decide +kernel
theorem dX11_size_69 : decode cX11_size 69 = .ok (.getfield 92, 3) := by decide +kernel
theorem dX11_size_72 : decode cX11_size 72 = .ok (.iload 8, 2) := by decide +kernel
theorem dX11_size_74 : decode cX11_size 74 = .ok (.iload_n 1, 1) := by decide +kernel
theorem dX11_size_75 : decode cX11_size 75 = .ok (.aload 4, 2) := by decide +kernel
theorem dX11_size_77 : decode cX11_size 77 = .ok (.invokevirtual 183, 3) := by decide +kernel
theorem dX11_size_80 : decode cX11_size 80 = .ok (.aload_n 0, 1) := by decide +kernel
theorem dX11_size_81 : decode cX11_size 81 = .ok (.getfield 81, 3) := by decide +kernel
theorem dX11_size_84 : decode cX11_size 84 = .ok (.aload_n 0, 1) := by decide +kernel
theorem dX11_size_85 : decode cX11_size 85 = .ok (.getfield 37, 3) := by decide +kernel
theorem dX11_size_88 : decode cX11_size 88 = .ok (.getfield 123, 3) := by decide +kernel
theorem dX11_size_91 : decode cX11_size 91 = .ok (.invokevirtual 195, 3) := by decide +kernel
theorem dX11_size_94 : decode cX11_size 94 = .ok (.aload_n 0, 1) := by decide +kernel
theorem dX11_size_95 : decode cX11_size 95 = .ok (.aload_n 0, 1) := by decide +kernel
theorem dX11_size_96 : decode cX11_size 96 = .ok (.getfield 37, 3) := by decide +kernel
theorem dX11_size_99 : decode cX11_size 99 = .ok (.getfield 120, 3) := by decide +kernel
theorem dX11_size_102 : decode cX11_size 102 = .ok (.aload_n 0, 1) := by decide +kernel
theorem dX11_size_103 : decode cX11_size 103 = .ok (.getfield 81, 3) := by decide +kernel
theorem dX11_size_106 : decode cX11_size 106 = .ok (.aload_n 0, 1) := by decide +kernel
theorem dX11_size_107 : decode cX11_size 107 = .ok (.getfield 92, 3) := by decide +kernel
theorem dX11_size_110 : decode cX11_size 110 = .ok (.invokevirtual 198, 3) := by decide +kernel
theorem dX11_size_113 : decode cX11_size 113 = .ok (.aload_n 0, 1) := by decide +kernel
theorem dX11_size_114 : decode cX11_size 114 = .ok (.getfield 60, 3) := by decide +kernel
theorem dX11_size_117 : decode cX11_size 117 = .ok (.getfield 208, 3) := by decide +kernel
theorem dX11_size_120 : decode cX11_size 120 = .ok (.bipush (-5), 2) := by decide +kernel
theorem dX11_size_122 : decode cX11_size 122 = .ok (.if_icmp .ne 12, 3) := by decide +kernel
theorem dX11_size_125 : decode cX11_size 125 = .ok (.iload 7, 2) := by decide +kernel
theorem dX11_size_127 : decode cX11_size 127 = .ok (.ifCond .ne 7, 3) := by decide +kernel
theorem dX11_size_130 : decode cX11_size 130 = .ok (.iload 8, 2) := by decide +kernel
theorem dX11_size_132 : decode cX11_size 132 = .ok (.istore 7, 2) := by decide +kernel
theorem dX11_size_134 : decode cX11_size 134 = .ok (.aload_n 0, 1) := by decide +kernel
theorem dX11_size_135 : decode cX11_size 135 = .ok (.getfield 60, 3) := by decide +kernel
theorem dX11_size_138 : decode cX11_size 138 = .ok (.getfield 208, 3) := by decide +kernel
theorem dX11_size_141 : decode cX11_size 141 = .ok (.bipush (-5), 2) := by decide +kernel
theorem dX11_size_143 : decode cX11_size 143 = .ok (.if_icmp .eq 26, 3) := by decide +kernel
theorem dX11_size_146 : decode cX11_size 146 = .ok (.aload_n 0, 1) := by decide +kernel
theorem dX11_size_147 : decode cX11_size 147 = .ok (.iload 8, 2) := by decide +kernel
theorem dX11_size_149 : decode cX11_size 149 = .ok (.invokevirtual 224, 3) := by decide +kernel
theorem dX11_size_152 : decode cX11_size 152 = .ok (.iload 5, 2) := by decide +kernel
theorem dX11_size_154 : decode cX11_size 154 = .ok (.if_icmp .le 15, 3) := by decide +kernel
theorem dX11_size_157 : decode cX11_size 157 = .ok (.aload_n 0, 1) := by decide +kernel
theorem dX11_size_158 : decode cX11_size 158 = .ok (.iload 8, 2) := by decide +kernel
theorem dX11_size_160 : decode cX11_size 160 = .ok (.invokevirtual 224, 3) := by decide +kernel
theorem dX11_size_163 : decode cX11_size 163 = .ok (.istore 5, 2) := by decide +kernel
theorem dX11_size_165 : decode cX11_size 165 = .ok (.iload 8, 2) := by decide +kernel
theorem dX11_size_167 : decode cX11_size 167 = .ok (.istore 6, 2) := by decide +kernel
theorem dX11_size_169 : decode cX11_size 169 = .ok (.iinc 8 1, 3) := by decide +kernel
theorem dX11_size_172 : decode cX11_size 172 = .ok (.goto (-111), 3) := by decide +kernel
theorem dX11_size_175 : decode cX11_size 175 = .ok (.iload_n 3, 1) := by decide +kernel
theorem dX11_size_176 : decode cX11_size 176 = .ok (.ifCond .ne 8, 3) := by decide +kernel
theorem dX11_size_179 : decode cX11_size 179 = .ok (.iload 6, 2) := by decide +kernel
theorem dX11_size_181 : decode cX11_size 181 = .ok (.goto 5, 3) := by decide +kernel
theorem dX11_size_184 : decode cX11_size 184 = .ok (.iload 7, 2) := by decide +kernel
theorem dX11_size_186 : decode cX11_size 186 = .ok (.ireturn, 1) := by decide +kernel
theorem dX11_several_0 : decode cX11_several 0 = .ok (.iload_n 1, 1) := by decide +kernel
theorem dX11_several_1 : decode cX11_several 1 = .ok (.iconst (-1), 1) := by decide +kernel
theorem dX11_several_2 : decode cX11_several 2 = .ok (.if_icmp .ne 13, 3) := by decide +kernel
theorem dX11_several_5 : decode cX11_several 5 = .ok (.aload_n 0, 1) := by decide +kernel
theorem dX11_several_6 : decode cX11_several 6 = .ok (.getfield 37, 3) := by decide +kernel
theorem dX11_several_9 : decode cX11_several 9 = .ok (.iconst 0, 1) := by decide +kernel
theorem dX11_several_10 : decode cX11_several 10 = .ok (.putfield 227, 3) := by decide +kernel
theorem dX11_several_13 : decode cX11_several 13 = .ok (.iconst 0, 1) := by decide +kernel
theorem dX11_several_14 : decode cX11_several 14 = .ok (.ireturn, 1) := by decide +kernel
theorem dX11_several_15 : decode cX11_several 15 = .ok (.aload_n 0, 1) := by decide +kernel
theorem dX11_several_16 : decode cX11_several 16 = .ok (.iload_n 1, 1) := by decide +kernel
theorem dX11_several_17 : decode cX11_several 17 = .ok (.invokevirtual 187, 3) := by decide +kernel
theorem dX11_several_20 : decode cX11_several 20 = .ok (.ifnonnull 5, 3) := by decide +kernel
theorem dX11_several_23 : decode cX11_several 23 = .ok (.iconst (-1), 1) := by decide +kernel
theorem dX11_several_24 : decode cX11_several 24 = .ok (.ireturn, 1) := by decide +kernel
theorem dX11_several_25 : decode cX11_several 25 = .ok (.aload_n 0, 1) := by decide +kernel
theorem dX11_several_26 : decode cX11_several 26 = .ok (.getfield 37, 3) := by decide +kernel
theorem dX11_several_29 : decode cX11_several 29 = .ok (.getfield 227, 3) := by decide +kernel
theorem dX11_several_32 : decode cX11_several 32 = .ok (.iconst 3, 1) := by decide +kernel
theorem dX11_several_33 : decode cX11_several 33 = .ok (.if_icmp .lt 6, 3) := by decide +kernel
theorem dX11_several_36 : decode cX11_several 36 = .ok (.bipush (-4), 2) := by decide +kernel
theorem dX11_several_38 : decode cX11_several 38 = .ok (.ireturn, 1) := by decide +kernel
theorem dX11_several_39 : decode cX11_several 39 = .ok (.aload_n 0, 1) := by decide +kernel
theorem dX11_several_40 : decode cX11_several 40 = .ok (.getfield 37, 3) := by decide +kernel
theorem dX11_several_43 : decode cX11_several 43 = .ok (.getfield 230, 3) := by decide +kernel
theorem dX11_several_46 : decode cX11_several 46 = .ok (.aload_n 0, 1) := by decide +kernel
theorem dX11_several_47 : decode cX11_several 47 = .ok (.getfield 37, 3) := by decide +kernel
theorem dX11_several_50 : decode cX11_several 50 = .ok (.getfield 227, 3) := by decide +kernel
theorem dX11_several_53 : decode cX11_several 53 = .ok (.iload_n 1, 1) := by decide +kernel
theorem dX11_several_54 : decode cX11_several 54 = .ok (.iastore, 1) := by decide +kernel
theorem dX11_several_55 : decode cX11_several 55 = .ok (.aload_n 0, 1) := by decide +kernel
theorem dX11_several_56 : decode cX11_several 56 = .ok (.getfield 37, 3) := by decide +kernel
theorem dX11_several_59 : decode cX11_several 59 = .ok (.dup, 1) := by decide +kernel
theorem dX11_several_60 : decode cX11_several 60 = .ok (.getfield 227, 3) := by decide +kernel
theorem dX11_several_63 : decode cX11_several 63 = .ok (.iconst 1, 1) := by decide +kernel
theorem dX11_several_64 : decode cX11_several 64 = .ok (.iadd, 1) := by decide +kernel
theorem dX11_several_65 : decode cX11_several 65 = .ok (.putfield 227, 3) := by decide +kernel
theorem dX11_several_68 : decode cX11_several 68 = .ok (.aload_n 0, 1) := by decide +kernel
theorem dX11_several_69 : decode cX11_several 69 = .ok (.getfield 37, 3) := by decide +kernel
theorem dX11_several_72 : decode cX11_several 72 = .ok (.getfield 227, 3) := by decide +kernel
theorem dX11_several_75 : decode cX11_several 75 = .ok (.ireturn, 1) := by decide +kernel
theorem dX11_all_0 : decode cX11_all 0 = .ok (.iload_n 1, 1) := by decide +kernel
theorem dX11_all_1 : decode cX11_all 1 = .ok (.iconst 0, 1) := by decide +kernel
theorem dX11_all_2 : decode cX11_all 2 = .ok (.iconst 5, 1) := by decide +kernel
theorem dX11_all_3 : decode cX11_all 3 = .ok (.invokestatic 101, 3) := by decide +kernel
theorem dX11_all_6 : decode cX11_all 6 = .ok (.ifCond .ne 24, 3) := by decide +kernel
theorem dX11_all_9 : decode cX11_all 9 = .ok (.iload_n 1, 1) := by decide +kernel
theorem dX11_all_10 : decode cX11_all 10 = .ok (.bipush 10, 2) := by decide +kernel
theorem dX11_all_12 : decode cX11_all 12 = .ok (.bipush 9, 2) := by decide +kernel
theorem dX11_all_14 : decode cX11_all 14 = .ok (.aload_n 0, 1) := by decide +kernel
theorem dX11_all_15 : decode cX11_all 15 = .ok (.getfield 37, 3) := by decide +kernel
theorem dX11_all_18 : decode cX11_all 18 = .ok (.getfield 227, 3) := by decide +kernel
theorem dX11_all_21 : decode cX11_all 21 = .ok (.iadd, 1) := by decide +kernel
theorem dX11_all_22 : decode cX11_all 22 = .ok (.invokestatic 101, 3) := by decide +kernel
theorem dX11_all_25 : decode cX11_all 25 = .ok (.ifCond .ne 5, 3) := by decide +kernel
theorem dX11_all_28 : decode cX11_all 28 = .ok (.iconst (-1), 1) := by decide +kernel
theorem dX11_all_29 : decode cX11_all 29 = .ok (.ireturn, 1) := by decide +kernel
theorem dX11_all_30 : decode cX11_all 30 = .ok (.aload_n 0, 1) := by decide +kernel
theorem dX11_all_31 : decode cX11_all 31 = .ok (.getfield 37, 3) := by decide +kernel
theorem dX11_all_34 : decode cX11_all 34 = .ok (.getfield 120, 3) := by decide +kernel
theorem dX11_all_37 : decode cX11_all 37 = .ok (.ifnonnull 6, 3) := by decide +kernel
theorem dX11_all_40 : decode cX11_all 40 = .ok (.bipush (-3), 2) := by decide +kernel
theorem dX11_all_42 : decode cX11_all 42 = .ok (.ireturn, 1) := by decide +kernel
theorem dX11_all_43 : decode cX11_all 43 = .ok (.iload_n 1, 1) := by decide +kernel
theorem dX11_all_44 : decode cX11_all 44 = .ok (.iconst 2, 1) := by decide +kernel
theorem dX11_all_45 : decode cX11_all 45 = .ok (.if_icmp .lt 8, 3) := by decide +kernel
theorem dX11_all_48 : decode cX11_all 48 = .ok (.iload_n 1, 1) := by decide +kernel
theorem dX11_all_49 : decode cX11_all 49 = .ok (.iconst 5, 1) := by decide +kernel
theorem dX11_all_50 : decode cX11_all 50 = .ok (.if_icmp .le 17, 3) := by decide +kernel
theorem dX11_all_53 : decode cX11_all 53 = .ok (.aload_n 0, 1) := by decide +kernel
theorem dX11_all_54 : decode cX11_all 54 = .ok (.iconst 0, 1) := by decide +kernel
theorem dX11_all_55 : decode cX11_all 55 = .ok (.invokevirtual 233, 3) := by decide +kernel
theorem dX11_all_58 : decode cX11_all 58 = .ok (.aload_n 0, 1) := by decide +kernel
theorem dX11_all_59 : decode cX11_all 59 = .ok (.getfield 74, 3) := by decide +kernel
theorem dX11_all_62 : decode cX11_all 62 = .ok (.iload_n 1, 1) := by decide +kernel
theorem dX11_all_63 : decode cX11_all 63 = .ok (.invokevirtual 237, 3) := by decide +kernel
theorem dX11_all_66 : decode cX11_all 66 = .ok (.ireturn, 1) := by decide +kernel
theorem dX11_all_67 : decode cX11_all 67 = .ok (.aload_n 0, 1) := by decide +kernel
theorem dX11_all_68 : decode cX11_all 68 = .ok (.getfield 74, 3) := by decide +kernel
theorem dX11_all_71 : decode cX11_all 71 = .ok (.invokevirtual 240, 3) := by decide +kernel
theorem dX11_all_74 : decode cX11_all 74 = .ok (.iconst 0, 1) := by decide +kernel
theorem dX11_all_75 : decode cX11_all 75 = .ok (.istore_n 2, 1) := by decide +kernel
theorem dX11_all_76 : decode cX11_all 76 = .ok (.iload_n 2, 1) := by decide +kernel
theorem dX11_all_77 : decode cX11_all 77 = .ok (.iconst 3, 1) := by decide +kernel
theorem dX11_all_78 : decode cX11_all 78 = .ok (.imul, 1) := by decide +kernel
theorem dX11_all_79 : decode cX11_all 79 = .ok (.getstatic 243, 3) := by decide +kernel
theorem dX11_all_82 : decode cX11_all 82 = .ok (.arraylength, 1) := by decide +kernel
theorem dX11_all_83 : decode cX11_all 83 = .ok (.if_icmp .ge 36, 3) := by decide +kernel
theorem dX11_all_86 : decode cX11_all 86 = .ok (.iload_n 2, 1) := by decide +kernel
theorem dX11_all_87 : decode cX11_all 87 = .ok (.aload_n 0, 1) := by decide +kernel
theorem dX11_all_88 : decode cX11_all 88 = .ok (.getfield 37, 3) := by decide +kernel
theorem dX11_all_91 : decode cX11_all 91 = .ok (.getfield 227, 3) := by decide +kernel
theorem dX11_all_94 : decode cX11_all 94 = .ok (.invokestatic 246, 3) := by decide +kernel
theorem dX11_all_97 : decode cX11_all 97 = .ok (.ifCond .eq 16, 3) := by decide +kernel
theorem dX11_all_100 : decode cX11_all 100 = .ok (.aload_n 0, 1) := by decide +kernel
theorem dX11_all_101 : decode cX11_all 101 = .ok (.iload_n 2, 1) := by decide +kernel
theorem dX11_all_102 : decode cX11_all 102 = .ok (.invokevirtual 233, 3) := by decide +kernel
theorem dX11_all_105 : decode cX11_all 105 = .ok (.aload_n 0, 1) := by decide +kernel
theorem dX11_all_106 : decode cX11_all 106 = .ok (.getfield 74, 3) := by decide +kernel
theorem dX11_all_109 : decode cX11_all 109 = .ok (.iload_n 2, 1) := by decide +kernel
theorem dX11_all_110 : decode cX11_all 110 = .ok (.invokevirtual 250, 3) := by decide +kernel
theorem dX11_all_113 : decode cX11_all 113 = .ok (.iinc 2 1, 3) := by decide +kernel
theorem dX11_all_116 : decode cX11_all 116 = .ok (.goto (-40), 3) := by decide +kernel
theorem dX11_all_119 : decode cX11_all 119 = .ok (.iload_n 1, 1) := by decide +kernel
theorem dX11_all_120 : decode cX11_all 120 = .ok (.iconst 5, 1) := by decide +kernel
theorem dX11_all_121 : decode cX11_all 121 = .ok (.if_icmp .ne 13, 3) := by decide +kernel
theorem dX11_all_124 : decode cX11_all 124 = .ok (.aload_n 0, 1) := by decide +kernel
theorem dX11_all_125 : decode cX11_all 125 = .ok (.getfield 74, 3) := by decide +kernel
theorem dX11_all_128 : decode cX11_all 128 = .ok (.getfield 253, 3) := by decide +kernel
theorem dX11_all_131 : decode cX11_all 131 = .ok (.goto 20, 3) := by decide +kernel
theorem dX11_all_134 : decode cX11_all 134 = .ok (.aload_n 0, 1) := by decide +kernel
theorem dX11_all_135 : decode cX11_all 135 = .ok (.getfield 74, 3) := by decide +kernel
theorem dX11_all_138 : decode cX11_all 138 = .ok (.iload_n 1, 1) := by decide +kernel
theorem dX11_all_139 : decode cX11_all 139 = .ok (.iconst 2, 1) := by decide +kernel
theorem dX11_all_140 : decode cX11_all 140 = .ok (.isub, 1) := by decide +kernel
theorem dX11_all_141 : decode cX11_all 141 = .ok (.aload_n 0, 1) := by decide +kernel
theorem dX11_all_142 : decode cX11_all 142 = .ok (.getfield 37, 3) := by decide +kernel
theorem dX11_all_145 : decode cX11_all 145 = .ok (.getfield 227, 3) := by decide +kernel
theorem dX11_all_148 : decode cX11_all 148 = .ok (.invokevirtual 256, 3) := by decide +kernel
theorem dX11_all_151 : decode cX11_all 151 = .ok (.ireturn, 1) := by decide +kernel
theorem dX11_likely_0 : decode cX11_likely 0 = .ok (.aload_n 0, 1) := by decide +kernel
theorem dX11_likely_1 : decode cX11_likely 1 = .ok (.iload_n 1, 1) := by decide +kernel
theorem dX11_likely_2 : decode cX11_likely 2 = .ok (.invokevirtual 187, 3) := by decide +kernel
theorem dX11_likely_5 : decode cX11_likely 5 = .ok (.astore_n 3, 1) := by decide +kernel
theorem dX11_likely_6 : decode cX11_likely 6 = .ok (.aload_n 3, 1) := by decide +kernel
theorem dX11_likely_7 : decode cX11_likely 7 = .ok (.ifnull 22, 3) := by decide +kernel
theorem dX11_likely_10 : decode cX11_likely 10 = .ok (.iload_n 2, 1) := by decide +kernel
theorem dX11_likely_11 : decode cX11_likely 11 = .ok (.iconst 0, 1) := by decide +kernel
theorem dX11_likely_12 : decode cX11_likely 12 = .ok (.iconst 1, 1) := by decide +kernel
theorem dX11_likely_13 : decode cX11_likely 13 = .ok (.invokestatic 101, 3) := by decide +kernel
theorem dX11_likely_16 : decode cX11_likely 16 = .ok (.ifCond .eq 13, 3) := by decide +kernel
theorem dX11_likely_19 : decode cX11_likely 19 = .ok (.aload_n 0, 1) := by decide +kernel
theorem dX11_likely_20 : decode cX11_likely 20 = .ok (.getfield 37, 3) := by decide +kernel
theorem dX11_likely_23 : decode cX11_likely 23 = .ok (.getfield 120, 3) := by decide +kernel
theorem dX11_likely_26 : decode cX11_likely 26 = .ok (.ifnonnull 7, 3) := by decide +kernel
theorem dX11_likely_29 : decode cX11_likely 29 = .ok (.ldc2_w 259, 3) := by decide +kernel
theorem dX11_likely_32 : decode cX11_likely 32 = .ok (.lreturn, 1) := by decide +kernel
theorem dX11_likely_33 : decode cX11_likely 33 = .ok (.iconst 0, 1) := by decide +kernel
theorem dX11_likely_34 : decode cX11_likely 34 = .ok (.istore 4, 2) := by decide +kernel
theorem dX11_likely_36 : decode cX11_likely 36 = .ok (.iconst 1, 1) := by decide +kernel
theorem dX11_likely_37 : decode cX11_likely 37 = .ok (.istore 5, 2) := by decide +kernel
theorem dX11_likely_39 : decode cX11_likely 39 = .ok (.iconst 0, 1) := by decide +kernel
theorem dX11_likely_40 : decode cX11_likely 40 = .ok (.istore 6, 2) := by decide +kernel
theorem dX11_likely_42 : decode cX11_likely 42 = .ok (.iload 6, 2) := by decide +kernel
theorem dX11_likely_44 : decode cX11_likely 44 = .ok (.aload_n 0, 1) := by decide +kernel
theorem dX11_likely_45 : decode cX11_likely 45 = .ok (.getfield 37, 3) := by decide +kernel
theorem dX11_likely_48 : decode cX11_likely 48 = .ok (.getfield 120, 3) := by decide +kernel
theorem dX11_likely_51 : decode cX11_likely 51 = .ok (.getfield 134, 3) := by decide +kernel
theorem dX11_likely_54 : decode cX11_likely 54 = .ok (.if_icmp .ge 16, 3) := by decide +kernel
theorem dX11_likely_57 : decode cX11_likely 57 = .ok (.iload 5, 2) := by decide +kernel
theorem dX11_likely_59 : decode cX11_likely 59 = .ok (.bipush 10, 2) := by decide +kernel
theorem dX11_likely_61 : decode cX11_likely 61 = .ok (.imul, 1) := by decide +kernel
theorem dX11_likely_62 : decode cX11_likely 62 = .ok (.istore 5, 2) := by decide +kernel
theorem dX11_likely_64 : decode cX11_likely 64 = .ok (.iinc 6 1, 3) := by decide +kernel
theorem dX11_likely_67 : decode cX11_likely 67 = .ok (.goto (-25), 3) := by decide +kernel
theorem dX11_likely_70 : decode cX11_likely 70 = .ok (.iconst 0, 1) := by decide +kernel
theorem dX11_likely_71 : decode cX11_likely 71 = .ok (.istore 6, 2) := by decide +kernel
theorem dX11_likely_73 : decode cX11_likely 73 = .ok (.iload 6, 2) := by decide +kernel
theorem dX11_likely_75 : decode cX11_likely 75 = .ok (.iconst 1, 1) := by decide +kernel
theorem dX11_likely_76 : decode cX11_likely 76 = .ok (.aload_n 0, 1) := by decide +kernel
theorem dX11_likely_77 : decode cX11_likely 77 = .ok (.getfield 37, 3) := by decide +kernel
theorem dX11_likely_80 : decode cX11_likely 80 = .ok (.getfield 120, 3) := by decide +kernel
theorem dX11_likely_83 : decode cX11_likely 83 = .ok (.getfield 134, 3) := by decide +kernel
theorem dX11_likely_86 : decode cX11_likely 86 = .ok (.ishl, 1) := by decide +kernel
theorem dX11_likely_87 : decode cX11_likely 87 = .ok (.if_icmp .ge 39, 3) := by decide +kernel
theorem dX11_likely_90 : decode cX11_likely 90 = .ok (.aload_n 0, 1) := by decide +kernel
theorem dX11_likely_91 : decode cX11_likely 91 = .ok (.iload 6, 2) := by decide +kernel
theorem dX11_likely_93 : decode cX11_likely 93 = .ok (.invokevirtual 261, 3) := by decide +kernel
theorem dX11_likely_96 : decode cX11_likely 96 = .ok (.istore 7, 2) := by decide +kernel
theorem dX11_likely_98 : decode cX11_likely 98 = .ok (.iload 7, 2) := by decide +kernel
theorem dX11_likely_100 : decode cX11_likely 100 = .ok (.ifCond .le 20, 3) := by decide +kernel
theorem dX11_likely_103 : decode cX11_likely 103 = .ok (.aload_n 0, 1) := by decide +kernel
theorem dX11_likely_104 : decode cX11_likely 104 = .ok (.iload 6, 2) := by decide +kernel
theorem dX11_likely_106 : decode cX11_likely 106 = .ok (.aload_n 3, 1) := by decide +kernel
theorem dX11_likely_107 : decode cX11_likely 107 = .ok (.invokevirtual 264, 3) := by decide +kernel
theorem dX11_likely_110 : decode cX11_likely 110 = .ok (.ifCond .eq 10, 3) := by decide +kernel
theorem dX11_likely_113 : decode cX11_likely 113 = .ok (.iload 4, 2) := by decide +kernel
theorem dX11_likely_115 : decode cX11_likely 115 = .ok (.iload 7, 2) := by decide +kernel
theorem dX11_likely_117 : decode cX11_likely 117 = .ok (.iadd, 1) := by decide +kernel
theorem dX11_likely_118 : decode cX11_likely 118 = .ok (.istore 4, 2) := by decide +kernel
theorem dX11_likely_120 : decode cX11_likely 120 = .ok (.iinc 6 1, 3) := by decide +kernel
theorem dX11_likely_123 : decode cX11_likely 123 = .ok (.goto (-50), 3) := by decide +kernel
theorem dX11_likely_126 : decode cX11_likely 126 = .ok (.iload 4, 2) := by decide +kernel
theorem dX11_likely_128 : decode cX11_likely 128 = .ok (.iload 5, 2) := by decide +kernel
theorem dX11_likely_130 : decode cX11_likely 130 = .ok (.invokestatic 268, 3) := by decide +kernel
theorem dX11_likely_133 : decode cX11_likely 133 = .ok (.istore 6, 2) := by decide +kernel
theorem dX11_likely_135 : decode cX11_likely 135 = .ok (.iload 6, 2) := by decide +kernel
theorem dX11_likely_137 : decode cX11_likely 137 = .ok (.iconst 1, 1) := by decide +kernel
theorem dX11_likely_138 : decode cX11_likely 138 = .ok (.if_icmp .ge 7, 3) := by decide +kernel
theorem dX11_likely_141 : decode cX11_likely 141 = .ok (.ldc2_w 259, 3) := by decide +kernel
theorem dX11_likely_144 : decode cX11_likely 144 = .ok (.lreturn, 1) := by decide +kernel
theorem dX11_likely_145 : decode cX11_likely 145 = .ok (.iload_n 2, 1) := by decide +kernel
theorem dX11_likely_146 : decode cX11_likely 146 = .ok (.ifCond .ne 12, 3) := by decide +kernel
theorem dX11_likely_149 : decode cX11_likely 149 = .ok (.iload 4, 2) := by decide +kernel
theorem dX11_likely_151 : decode cX11_likely 151 = .ok (.iload 6, 2) := by decide +kernel
theorem dX11_likely_153 : decode cX11_likely 153 = .ok (.idiv, 1) := by decide +kernel
theorem dX11_likely_154 : decode cX11_likely 154 = .ok (.i2l, 1) := by decide +kernel
theorem dX11_likely_155 : decode cX11_likely 155 = .ok (.goto 9, 3) := by decide +kernel
theorem dX11_likely_158 : decode cX11_likely 158 = .ok (.iload 5, 2) := by decide +kernel
theorem dX11_likely_160 : decode cX11_likely 160 = .ok (.iload 6, 2) := by decide +kernel
theorem dX11_likely_162 : decode cX11_likely 162 = .ok (.idiv, 1) := by decide +kernel
theorem dX11_likely_163 : decode cX11_likely 163 = .ok (.i2l, 1) := by decide +kernel
theorem dX11_likely_164 : decode cX11_likely 164 = .ok (.lreturn, 1) := by decide +kernel
theorem dX11_dig_0 : decode cX11_dig 0 = .ok (.aload_n 0, 1) := by decide +kernel
theorem dX11_dig_1 : decode cX11_dig 1 = .ok (.iload_n 1, 1) := by decide +kernel
theorem dX11_dig_2 : decode cX11_dig 2 = .ok (.invokevirtual 187, 3) := by decide +kernel
theorem dX11_dig_5 : decode cX11_dig 5 = .ok (.astore 5, 2) := by decide +kernel
theorem dX11_dig_7 : decode cX11_dig 7 = .ok (.aload 5, 2) := by decide +kernel
theorem dX11_dig_9 : decode cX11_dig 9 = .ok (.ifnull 13, 3) := by decide +kernel
theorem dX11_dig_12 : decode cX11_dig 12 = .ok (.iload 4, 2) := by decide +kernel
theorem dX11_dig_14 : decode cX11_dig 14 = .ok (.iconst 0, 1) := by decide +kernel
theorem dX11_dig_15 : decode cX11_dig 15 = .ok (.iconst 1, 1) := by decide +kernel
theorem dX11_dig_16 : decode cX11_dig 16 = .ok (.invokestatic 101, 3) := by decide +kernel
theorem dX11_dig_19 : decode cX11_dig 19 = .ok (.ifCond .ne 5, 3) := by decide +kernel
theorem dX11_dig_22 : decode cX11_dig 22 = .ok (.iconst (-1), 1) := by decide +kernel
theorem dX11_dig_23 : decode cX11_dig 23 = .ok (.ireturn, 1) := by decide +kernel
theorem dX11_dig_24 : decode cX11_dig 24 = .ok (.iload_n 2, 1) := by decide +kernel
theorem dX11_dig_25 : decode cX11_dig 25 = .ok (.iconst 0, 1) := by decide +kernel
theorem dX11_dig_26 : decode cX11_dig 26 = .ok (.bipush 99, 2) := by decide +kernel
theorem dX11_dig_28 : decode cX11_dig 28 = .ok (.invokestatic 101, 3) := by decide +kernel
theorem dX11_dig_31 : decode cX11_dig 31 = .ok (.ifCond .eq 13, 3) := by decide +kernel
theorem dX11_dig_34 : decode cX11_dig 34 = .ok (.iload_n 3, 1) := by decide +kernel
theorem dX11_dig_35 : decode cX11_dig 35 = .ok (.iconst 0, 1) := by decide +kernel
theorem dX11_dig_36 : decode cX11_dig 36 = .ok (.bipush 99, 2) := by decide +kernel
theorem dX11_dig_38 : decode cX11_dig 38 = .ok (.invokestatic 101, 3) := by decide +kernel
theorem dX11_dig_41 : decode cX11_dig 41 = .ok (.ifCond .ne 6, 3) := by decide +kernel
theorem dX11_dig_44 : decode cX11_dig 44 = .ok (.bipush (-2), 2) := by decide +kernel
theorem dX11_dig_46 : decode cX11_dig 46 = .ok (.ireturn, 1) := by decide +kernel
theorem dX11_dig_47 : decode cX11_dig 47 = .ok (.aload_n 0, 1) := by decide +kernel
theorem dX11_dig_48 : decode cX11_dig 48 = .ok (.getfield 37, 3) := by decide +kernel
theorem dX11_dig_51 : decode cX11_dig 51 = .ok (.getfield 120, 3) := by decide +kernel
theorem dX11_dig_54 : decode cX11_dig 54 = .ok (.astore 6, 2) := by decide +kernel
theorem dX11_dig_56 : decode cX11_dig 56 = .ok (.aload 6, 2) := by decide +kernel
theorem dX11_dig_58 : decode cX11_dig 58 = .ok (.ifnonnull 6, 3) := by decide +kernel
theorem dX11_dig_61 : decode cX11_dig 61 = .ok (.bipush (-3), 2) := by decide +kernel
theorem dX11_dig_63 : decode cX11_dig 63 = .ok (.ireturn, 1) := by decide +kernel
theorem dX11_dig_64 : decode cX11_dig 64 = .ok (.bipush (-5), 2) := by decide +kernel
theorem dX11_dig_66 : decode cX11_dig 66 = .ok (.istore 7, 2) := by decide +kernel
theorem dX11_dig_68 : decode cX11_dig 68 = .ok (.bipush (-5), 2) := by decide +kernel
theorem dX11_dig_70 : decode cX11_dig 70 = .ok (.istore 8, 2) := by decide +kernel
theorem dX11_dig_72 : decode cX11_dig 72 = .ok (.iconst 0, 1) := by decide +kernel
theorem dX11_dig_73 : decode cX11_dig 73 = .ok (.istore 9, 2) := by decide +kernel
theorem dX11_dig_75 : decode cX11_dig 75 = .ok (.iload 9, 2) := by decide +kernel
theorem dX11_dig_77 : decode cX11_dig 77 = .ok (.aload 6, 2) := by decide +kernel
theorem dX11_dig_79 : decode cX11_dig 79 = .ok (.getfield 134, 3) := by decide +kernel
theorem dX11_dig_82 : decode cX11_dig 82 = .ok (.if_icmp .gt 120, 3) := by decide +kernel
theorem dX11_dig_85 : decode cX11_dig 85 = .ok (.aload 6, 2) := by decide +kernel
theorem dX11_dig_87 : decode cX11_dig 87 = .ok (.getfield 134, 3) := by decide +kernel
theorem dX11_dig_90 : decode cX11_dig 90 = .ok (.iconst 5, 1) := by decide +kernel
theorem dX11_dig_91 : decode cX11_dig 91 = .ok (.if_icmp .ge 111, 3) := by decide +kernel
theorem dX11_dig_94 : decode cX11_dig 94 = .ok (.iconst 1, 1) := by decide +kernel
theorem dX11_dig_95 : decode cX11_dig 95 = .ok (.istore 10, 2) := by decide +kernel
theorem dX11_dig_97 : decode cX11_dig 97 = .ok (.iload 10, 2) := by decide +kernel
theorem dX11_dig_99 : decode cX11_dig 99 = .ok (.aload 6, 2) := by decide +kernel
theorem dX11_dig_101 : decode cX11_dig 101 = .ok (.getfield 142, 3) := by decide +kernel
theorem dX11_dig_104 : decode cX11_dig 104 = .ok (.iload 9, 2) := by decide +kernel
theorem dX11_dig_106 : decode cX11_dig 106 = .ok (.iaload, 1) := by decide +kernel
theorem dX11_dig_107 : decode cX11_dig 107 = .ok (.if_icmp .ge 89, 3) := by decide +kernel
theorem dX11_dig_110 : decode cX11_dig 110 = .ok (.aload_n 0, 1) := by decide +kernel
theorem dX11_dig_111 : decode cX11_dig 111 = .ok (.getfield 88, 3) := by decide +kernel
theorem dX11_dig_114 : decode cX11_dig 114 = .ok (.aload 6, 2) := by decide +kernel
theorem dX11_dig_116 : decode cX11_dig 116 = .ok (.iload 9, 2) := by decide +kernel
theorem dX11_dig_118 : decode cX11_dig 118 = .ok (.iload 10, 2) := by decide +kernel
theorem dX11_dig_120 : decode cX11_dig 120 = .ok (.iload_n 2, 1) := by decide +kernel
theorem dX11_dig_121 : decode cX11_dig 121 = .ok (.iload_n 3, 1) := by decide +kernel
theorem dX11_dig_122 : decode cX11_dig 122 = .ok (.invokevirtual 271, 3) := by decide +kernel
theorem dX11_dig_125 : decode cX11_dig 125 = .ok (.aload_n 0, 1) := by decide +kernel
theorem dX11_dig_126 : decode cX11_dig 126 = .ok (.getfield 81, 3) := by decide +kernel
theorem dX11_dig_129 : decode cX11_dig 129 = .ok (.aload_n 0, 1) := by decide +kernel
theorem dX11_dig_130 : decode cX11_dig 130 = .ok (.getfield 88, 3) := by decide +kernel
theorem dX11_dig_133 : decode cX11_dig 133 = .ok (.invokevirtual 126, 3) := by decide +kernel
theorem dX11_dig_136 : decode cX11_dig 136 = .ok (.aload_n 0, 1) := by decide +kernel
theorem dX11_dig_137 : decode cX11_dig 137 = .ok (.getfield 67, 3) := by decide +kernel
theorem dX11_dig_140 : decode cX11_dig 140 = .ok (.aload_n 0, 1) := by decide +kernel
theorem dX11_dig_141 : decode cX11_dig 141 = .ok (.getfield 88, 3) := by decide +kernel
theorem dX11_dig_144 : decode cX11_dig 144 = .ok (.aload_n 0, 1) := by decide +kernel
theorem dX11_dig_145 : decode cX11_dig 145 = .ok (.getfield 81, 3) := by decide +kernel
theorem dX11_dig_148 : decode cX11_dig 148 = .ok (.aload 5, 2) := by decide +kernel
theorem dX11_dig_150 : decode cX11_dig 150 = .ok (.invokevirtual 275, 3) := by decide +kernel
theorem dX11_dig_153 : decode cX11_dig 153 = .ok (.istore 11, 2) := by decide +kernel
theorem dX11_dig_155 : decode cX11_dig 155 = .ok (.iload 11, 2) := by decide +kernel
theorem dX11_dig_157 : decode cX11_dig 157 = .ok (.bipush (-5), 2) := by decide +kernel
theorem dX11_dig_159 : decode cX11_dig 159 = .ok (.if_icmp .eq 31, 3) := by decide +kernel
theorem dX11_dig_162 : decode cX11_dig 162 = .ok (.iload 7, 2) := by decide +kernel
theorem dX11_dig_164 : decode cX11_dig 164 = .ok (.bipush (-5), 2) := by decide +kernel
theorem dX11_dig_166 : decode cX11_dig 166 = .ok (.if_icmp .eq 10, 3) := by decide +kernel
theorem dX11_dig_169 : decode cX11_dig 169 = .ok (.iload 11, 2) := by decide +kernel
theorem dX11_dig_171 : decode cX11_dig 171 = .ok (.iload 7, 2) := by decide +kernel
theorem dX11_dig_173 : decode cX11_dig 173 = .ok (.if_icmp .ge 17, 3) := by decide +kernel
theorem dX11_dig_176 : decode cX11_dig 176 = .ok (.iload 11, 2) := by decide +kernel
theorem dX11_dig_178 : decode cX11_dig 178 = .ok (.istore 7, 2) := by decide +kernel
theorem dX11_dig_180 : decode cX11_dig 180 = .ok (.bipush 100, 2) := by decide +kernel
theorem dX11_dig_182 : decode cX11_dig 182 = .ok (.iload 9, 2) := by decide +kernel
theorem dX11_dig_184 : decode cX11_dig 184 = .ok (.imul, 1) := by decide +kernel
theorem dX11_dig_185 : decode cX11_dig 185 = .ok (.iload 10, 2) := by decide +kernel
theorem dX11_dig_187 : decode cX11_dig 187 = .ok (.iadd, 1) := by decide +kernel
theorem dX11_dig_188 : decode cX11_dig 188 = .ok (.istore 8, 2) := by decide +kernel
theorem dX11_dig_190 : decode cX11_dig 190 = .ok (.iinc 10 1, 3) := by decide +kernel
theorem dX11_dig_193 : decode cX11_dig 193 = .ok (.goto (-96), 3) := by decide +kernel
theorem dX11_dig_196 : decode cX11_dig 196 = .ok (.iinc 9 1, 3) := by decide +kernel
theorem dX11_dig_199 : decode cX11_dig 199 = .ok (.goto (-124), 3) := by decide +kernel
theorem dX11_dig_202 : decode cX11_dig 202 = .ok (.iload 4, 2) := by decide +kernel
theorem dX11_dig_204 : decode cX11_dig 204 = .ok (.ifCond .ne 8, 3) := by decide +kernel
theorem dX11_dig_207 : decode cX11_dig 207 = .ok (.iload 8, 2) := by decide +kernel
theorem dX11_dig_209 : decode cX11_dig 209 = .ok (.goto 5, 3) := by decide +kernel
theorem dX11_dig_212 : decode cX11_dig 212 = .ok (.iload 7, 2) := by decide +kernel
theorem dX11_dig_214 : decode cX11_dig 214 = .ok (.ireturn, 1) := by decide +kernel
theorem dX11_judge_0 : decode cX11_judge 0 = .ok (.aload_n 0, 1) := by decide +kernel
theorem dX11_judge_1 : decode cX11_judge 1 = .ok (.iload_n 1, 1) := by decide +kernel
theorem dX11_judge_2 : decode cX11_judge 2 = .ok (.invokevirtual 279, 3) := by decide +kernel
theorem dX11_judge_5 : decode cX11_judge 5 = .ok (.astore 4, 2) := by decide +kernel
theorem dX11_judge_7 : decode cX11_judge 7 = .ok (.aload_n 0, 1) := by decide +kernel
theorem dX11_judge_8 : decode cX11_judge 8 = .ok (.iload_n 3, 1) := by decide +kernel
theorem dX11_judge_9 : decode cX11_judge 9 = .ok (.invokevirtual 187, 3) := by decide +kernel
theorem dX11_judge_12 : decode cX11_judge 12 = .ok (.astore 5, 2) := by decide +kernel
theorem dX11_judge_14 : decode cX11_judge 14 = .ok (.aload 4, 2) := by decide +kernel
theorem dX11_judge_16 : decode cX11_judge 16 = .ok (.ifnull 8, 3) := by decide +kernel
theorem dX11_judge_19 : decode cX11_judge 19 = .ok (.aload 5, 2) := by decide +kernel
theorem dX11_judge_21 : decode cX11_judge 21 = .ok (.ifnonnull 5, 3) := by decide +kernel
theorem dX11_judge_24 : decode cX11_judge 24 = .ok (.iconst (-1), 1) := by decide +kernel
theorem dX11_judge_25 : decode cX11_judge 25 = .ok (.ireturn, 1) := by decide +kernel
theorem dX11_judge_26 : decode cX11_judge 26 = .ok (.aload_n 0, 1) := by decide +kernel
theorem dX11_judge_27 : decode cX11_judge 27 = .ok (.getfield 37, 3) := by decide +kernel
theorem dX11_judge_30 : decode cX11_judge 30 = .ok (.getfield 120, 3) := by decide +kernel
theorem dX11_judge_33 : decode cX11_judge 33 = .ok (.astore 6, 2) := by decide +kernel
theorem dX11_judge_35 : decode cX11_judge 35 = .ok (.aload 6, 2) := by decide +kernel
theorem dX11_judge_37 : decode cX11_judge 37 = .ok (.ifnonnull 6, 3) := by decide +kernel
theorem dX11_judge_40 : decode cX11_judge 40 = .ok (.bipush (-3), 2) := by decide +kernel
theorem dX11_judge_42 : decode cX11_judge 42 = .ok (.ireturn, 1) := by decide +kernel
theorem dX11_judge_43 : decode cX11_judge 43 = .ok (.aload 4, 2) := by decide +kernel
theorem dX11_judge_45 : decode cX11_judge 45 = .ok (.getfield 283, 3) := by decide +kernel
theorem dX11_judge_48 : decode cX11_judge 48 = .ok (.iconst (-1), 1) := by decide +kernel
theorem dX11_judge_49 : decode cX11_judge 49 = .ok (.if_icmp .eq 15, 3) := by decide +kernel
theorem dX11_judge_52 : decode cX11_judge 52 = .ok (.aload 4, 2) := by decide +kernel
theorem dX11_judge_54 : decode cX11_judge 54 = .ok (.getfield 283, 3) := by decide +kernel
theorem dX11_judge_57 : decode cX11_judge 57 = .ok (.iconst 2, 1) := by decide +kernel
theorem dX11_judge_58 : decode cX11_judge 58 = .ok (.if_icmp .eq 6, 3) := by decide +kernel
theorem dX11_judge_61 : decode cX11_judge 61 = .ok (.bipush (-12), 2) := by decide +kernel
theorem dX11_judge_63 : decode cX11_judge 63 = .ok (.ireturn, 1) := by decide +kernel
theorem dX11_judge_64 : decode cX11_judge 64 = .ok (.aload_n 0, 1) := by decide +kernel
theorem dX11_judge_65 : decode cX11_judge 65 = .ok (.aload 4, 2) := by decide +kernel
theorem dX11_judge_67 : decode cX11_judge 67 = .ok (.iload_n 2, 1) := by decide +kernel
theorem dX11_judge_68 : decode cX11_judge 68 = .ok (.aload 6, 2) := by decide +kernel
theorem dX11_judge_70 : decode cX11_judge 70 = .ok (.getfield 134, 3) := by decide +kernel
theorem dX11_judge_73 : decode cX11_judge 73 = .ok (.invokevirtual 286, 3) := by decide +kernel
theorem dX11_judge_76 : decode cX11_judge 76 = .ok (.istore 7, 2) := by decide +kernel
theorem dX11_judge_78 : decode cX11_judge 78 = .ok (.aload_n 0, 1) := by decide +kernel
theorem dX11_judge_79 : decode cX11_judge 79 = .ok (.getfield 81, 3) := by decide +kernel
theorem dX11_judge_82 : decode cX11_judge 82 = .ok (.aload_n 0, 1) := by decide +kernel
theorem dX11_judge_83 : decode cX11_judge 83 = .ok (.getfield 37, 3) := by decide +kernel
theorem dX11_judge_86 : decode cX11_judge 86 = .ok (.getfield 123, 3) := by decide +kernel
theorem dX11_judge_89 : decode cX11_judge 89 = .ok (.invokevirtual 195, 3) := by decide +kernel
theorem dX11_judge_92 : decode cX11_judge 92 = .ok (.aload_n 0, 1) := by decide +kernel
theorem dX11_judge_93 : decode cX11_judge 93 = .ok (.getfield 60, 3) := by decide +kernel
theorem dX11_judge_96 : decode cX11_judge 96 = .ok (.aload 6, 2) := by decide +kernel
theorem dX11_judge_98 : decode cX11_judge 98 = .ok (.aload_n 0, 1) := by decide +kernel
theorem dX11_judge_99 : decode cX11_judge 99 = .ok (.getfield 81, 3) := by decide +kernel
theorem dX11_judge_102 : decode cX11_judge 102 = .ok (.aload 5, 2) := by decide +kernel
theorem dX11_judge_104 : decode cX11_judge 104 = .ok (.aload_n 0, 1) := by decide +kernel
theorem dX11_judge_105 : decode cX11_judge 105 = .ok (.getfield 96, 3) := by decide +kernel
theorem dX11_judge_108 : decode cX11_judge 108 = .ok (.invokevirtual 220, 3) := by decide +kernel
theorem dX11_judge_111 : decode cX11_judge 111 = .ok (.iload 7, 2) := by decide +kernel
theorem dX11_judge_113 : decode cX11_judge 113 = .ok (.aload 6, 2) := by decide +kernel
theorem dX11_judge_115 : decode cX11_judge 115 = .ok (.getfield 134, 3) := by decide +kernel
theorem dX11_judge_118 : decode cX11_judge 118 = .ok (.if_icmp .ge 27, 3) := by decide +kernel
theorem dX11_judge_121 : decode cX11_judge 121 = .ok (.aload_n 0, 1) := by decide +kernel
theorem dX11_judge_122 : decode cX11_judge 122 = .ok (.getfield 60, 3) := by decide +kernel
theorem dX11_judge_125 : decode cX11_judge 125 = .ok (.getfield 290, 3) := by decide +kernel
theorem dX11_judge_128 : decode cX11_judge 128 = .ok (.bipush (-5), 2) := by decide +kernel
theorem dX11_judge_130 : decode cX11_judge 130 = .ok (.if_icmp .eq 23, 3) := by decide +kernel
theorem dX11_judge_133 : decode cX11_judge 133 = .ok (.aload_n 0, 1) := by decide +kernel
theorem dX11_judge_134 : decode cX11_judge 134 = .ok (.getfield 60, 3) := by decide +kernel
theorem dX11_judge_137 : decode cX11_judge 137 = .ok (.getfield 290, 3) := by decide +kernel
theorem dX11_judge_140 : decode cX11_judge 140 = .ok (.iload 7, 2) := by decide +kernel
theorem dX11_judge_142 : decode cX11_judge 142 = .ok (.if_icmp .gt 11, 3) := by decide +kernel
theorem dX11_judge_145 : decode cX11_judge 145 = .ok (.aload_n 0, 1) := by decide +kernel
theorem dX11_judge_146 : decode cX11_judge 146 = .ok (.getfield 60, 3) := by decide +kernel
theorem dX11_judge_149 : decode cX11_judge 149 = .ok (.getfield 290, 3) := by decide +kernel
theorem dX11_judge_152 : decode cX11_judge 152 = .ok (.ireturn, 1) := by decide +kernel
theorem dX11_judge_153 : decode cX11_judge 153 = .ok (.aload 4, 2) := by decide +kernel
theorem dX11_judge_155 : decode cX11_judge 155 = .ok (.iload_n 2, 1) := by decide +kernel
theorem dX11_judge_156 : decode cX11_judge 156 = .ok (.invokevirtual 293, 3) := by decide +kernel
theorem dX11_judge_159 : decode cX11_judge 159 = .ok (.ifCond .eq 20, 3) := by decide +kernel
theorem dX11_judge_162 : decode cX11_judge 162 = .ok (.aload 4, 2) := by decide +kernel
theorem dX11_judge_164 : decode cX11_judge 164 = .ok (.iload_n 2, 1) := by decide +kernel
theorem dX11_judge_165 : decode cX11_judge 165 = .ok (.iload 7, 2) := by decide +kernel
theorem dX11_judge_167 : decode cX11_judge 167 = .ok (.iadd, 1) := by decide +kernel
theorem dX11_judge_168 : decode cX11_judge 168 = .ok (.invokevirtual 293, 3) := by decide +kernel
theorem dX11_judge_171 : decode cX11_judge 171 = .ok (.ifCond .eq 8, 3) := by decide +kernel
theorem dX11_judge_174 : decode cX11_judge 174 = .ok (.iload 7, 2) := by decide +kernel
theorem dX11_judge_176 : decode cX11_judge 176 = .ok (.goto 10, 3) := by decide +kernel
theorem dX11_judge_179 : decode cX11_judge 179 = .ok (.bipush 100, 2) := by decide +kernel
theorem dX11_judge_181 : decode cX11_judge 181 = .ok (.iload 7, 2) := by decide +kernel
theorem dX11_judge_183 : decode cX11_judge 183 = .ok (.iadd, 1) := by decide +kernel
theorem dX11_judge_184 : decode cX11_judge 184 = .ok (.iconst 1, 1) := by decide +kernel
theorem dX11_judge_185 : decode cX11_judge 185 = .ok (.iadd, 1) := by decide +kernel
theorem dX11_judge_186 : decode cX11_judge 186 = .ok (.ireturn, 1) := by decide +kernel
theorem dX11_image_0 : decode cX11_image 0 = .ok (.aload_n 0, 1) := by decide +kernel
theorem dX11_image_1 : decode cX11_image 1 = .ok (.getfield 41, 3) := by decide +kernel
theorem dX11_image_4 : decode cX11_image 4 = .ok (.aload_n 0, 1) := by decide +kernel
theorem dX11_image_5 : decode cX11_image 5 = .ok (.getfield 37, 3) := by decide +kernel
theorem dX11_image_8 : decode cX11_image 8 = .ok (.invokevirtual 296, 3) := by decide +kernel
theorem dX11_image_11 : decode cX11_image 11 = .ok (.aload_n 0, 1) := by decide +kernel
theorem dX11_image_12 : decode cX11_image 12 = .ok (.iconst 1, 1) := by decide +kernel
theorem dX11_image_13 : decode cX11_image 13 = .ok (.putfield 299, 3) := by decide +kernel
theorem dX11_image_16 : decode cX11_image 16 = .ok (.aload_n 0, 1) := by decide +kernel
theorem dX11_image_17 : decode cX11_image 17 = .ok (.getfield 37, 3) := by decide +kernel
theorem dX11_image_20 : decode cX11_image 20 = .ok (.getfield 227, 3) := by decide +kernel
theorem dX11_image_23 : decode cX11_image 23 = .ok (.ireturn, 1) := by decide +kernel
theorem dX11_undo_0 : decode cX11_undo 0 = .ok (.aload_n 0, 1) := by decide +kernel
theorem dX11_undo_1 : decode cX11_undo 1 = .ok (.getfield 299, 3) := by decide +kernel
theorem dX11_undo_4 : decode cX11_undo 4 = .ok (.ifCond .ne 6, 3) := by decide +kernel
theorem dX11_undo_7 : decode cX11_undo 7 = .ok (.bipush (-3), 2) := by decide +kernel
theorem dX11_undo_9 : decode cX11_undo 9 = .ok (.ireturn, 1) := by decide +kernel
theorem dX11_undo_10 : decode cX11_undo 10 = .ok (.aload_n 0, 1) := by decide +kernel
theorem dX11_undo_11 : decode cX11_undo 11 = .ok (.getfield 37, 3) := by decide +kernel
theorem dX11_undo_14 : decode cX11_undo 14 = .ok (.aload_n 0, 1) := by decide +kernel
theorem dX11_undo_15 : decode cX11_undo 15 = .ok (.getfield 41, 3) := by decide +kernel
theorem dX11_undo_18 : decode cX11_undo 18 = .ok (.invokevirtual 296, 3) := by decide +kernel
theorem dX11_undo_21 : decode cX11_undo 21 = .ok (.aload_n 0, 1) := by decide +kernel
theorem dX11_undo_22 : decode cX11_undo 22 = .ok (.getfield 37, 3) := by decide +kernel
theorem dX11_undo_25 : decode cX11_undo 25 = .ok (.getfield 227, 3) := by decide +kernel
theorem dX11_undo_28 : decode cX11_undo 28 = .ok (.ireturn, 1) := by decide +kernel
theorem dX11_act_0 : decode cX11_act 0 = .ok (.aload_n 0, 1) := by decide +kernel
theorem dX11_act_1 : decode cX11_act 1 = .ok (.getfield 53, 3) := by decide +kernel
theorem dX11_act_4 : decode cX11_act 4 = .ok (.iconst 0, 1) := by decide +kernel
theorem dX11_act_5 : decode cX11_act 5 = .ok (.putfield 303, 3) := by decide +kernel
theorem dX11_act_8 : decode cX11_act 8 = .ok (.aload_n 0, 1) := by decide +kernel
theorem dX11_act_9 : decode cX11_act 9 = .ok (.iload_n 1, 1) := by decide +kernel
theorem dX11_act_10 : decode cX11_act 10 = .ok (.invokevirtual 167, 3) := by decide +kernel
theorem dX11_act_13 : decode cX11_act 13 = .ok (.astore 4, 2) := by decide +kernel
theorem dX11_act_15 : decode cX11_act 15 = .ok (.aload 4, 2) := by decide +kernel
theorem dX11_act_17 : decode cX11_act 17 = .ok (.ifnull 12, 3) := by decide +kernel
theorem dX11_act_20 : decode cX11_act 20 = .ok (.iload_n 2, 1) := by decide +kernel
theorem dX11_act_21 : decode cX11_act 21 = .ok (.iconst 0, 1) := by decide +kernel
theorem dX11_act_22 : decode cX11_act 22 = .ok (.iconst 2, 1) := by decide +kernel
theorem dX11_act_23 : decode cX11_act 23 = .ok (.invokestatic 101, 3) := by decide +kernel
theorem dX11_act_26 : decode cX11_act 26 = .ok (.ifCond .ne 5, 3) := by decide +kernel
theorem dX11_act_29 : decode cX11_act 29 = .ok (.iconst 0, 1) := by decide +kernel
theorem dX11_act_30 : decode cX11_act 30 = .ok (.ireturn, 1) := by decide +kernel
theorem dX11_act_31 : decode cX11_act 31 = .ok (.aload_n 0, 1) := by decide +kernel
theorem dX11_act_32 : decode cX11_act 32 = .ok (.getfield 53, 3) := by decide +kernel
theorem dX11_act_35 : decode cX11_act 35 = .ok (.aload 4, 2) := by decide +kernel
theorem dX11_act_37 : decode cX11_act 37 = .ok (.aload 4, 2) := by decide +kernel
theorem dX11_act_39 : decode cX11_act 39 = .ok (.getfield 171, 3) := by decide +kernel
theorem dX11_act_42 : decode cX11_act 42 = .ok (.iload_n 2, 1) := by decide +kernel
theorem dX11_act_43 : decode cX11_act 43 = .ok (.iload_n 3, 1) := by decide +kernel
theorem dX11_act_44 : decode cX11_act 44 = .ok (.iconst 0, 1) := by decide +kernel
theorem dX11_act_45 : decode cX11_act 45 = .ok (.invokestatic 306, 3) := by decide +kernel
theorem dX11_act_48 : decode cX11_act 48 = .ok (.ireturn, 1) := by decide +kernel
theorem dX11_trace_0 : decode cX11_trace 0 = .ok (.iload_n 1, 1) := by decide +kernel
theorem dX11_trace_1 : decode cX11_trace 1 = .ok (.ifCond .lt 32, 3) := by decide +kernel
theorem dX11_trace_4 : decode cX11_trace 4 = .ok (.iload_n 1, 1) := by decide +kernel
theorem dX11_trace_5 : decode cX11_trace 5 = .ok (.aload_n 0, 1) := by decide +kernel
theorem dX11_trace_6 : decode cX11_trace 6 = .ok (.getfield 53, 3) := by decide +kernel
theorem dX11_trace_9 : decode cX11_trace 9 = .ok (.getfield 303, 3) := by decide +kernel
theorem dX11_trace_12 : decode cX11_trace 12 = .ok (.if_icmp .ge 21, 3) := by decide +kernel
theorem dX11_trace_15 : decode cX11_trace 15 = .ok (.iload_n 1, 1) := by decide +kernel
theorem dX11_trace_16 : decode cX11_trace 16 = .ok (.bipush 20, 2) := by decide +kernel
theorem dX11_trace_18 : decode cX11_trace 18 = .ok (.if_icmp .ge 15, 3) := by decide +kernel
theorem dX11_trace_21 : decode cX11_trace 21 = .ok (.aload_n 0, 1) := by decide +kernel
theorem dX11_trace_22 : decode cX11_trace 22 = .ok (.getfield 53, 3) := by decide +kernel
theorem dX11_trace_25 : decode cX11_trace 25 = .ok (.getfield 310, 3) := by decide +kernel
theorem dX11_trace_28 : decode cX11_trace 28 = .ok (.iload_n 1, 1) := by decide +kernel
theorem dX11_trace_29 : decode cX11_trace 29 = .ok (.iaload, 1) := by decide +kernel
theorem dX11_trace_30 : decode cX11_trace 30 = .ok (.goto 4, 3) := by decide +kernel
theorem dX11_trace_33 : decode cX11_trace 33 = .ok (.iconst (-1), 1) := by decide +kernel
theorem dX11_trace_34 : decode cX11_trace 34 = .ok (.ireturn, 1) := by decide +kernel
theorem dX11_taken_0 : decode cX11_taken 0 = .ok (.iload_n 2, 1) := by decide +kernel
theorem dX11_taken_1 : decode cX11_taken 1 = .ok (.iconst 0, 1) := by decide +kernel
theorem dX11_taken_2 : decode cX11_taken 2 = .ok (.bipush 6, 2) := by decide +kernel
theorem dX11_taken_4 : decode cX11_taken 4 = .ok (.invokestatic 101, 3) := by decide +kernel
theorem dX11_taken_7 : decode cX11_taken 7 = .ok (.ifCond .ne 6, 3) := by decide +kernel
theorem dX11_taken_10 : decode cX11_taken 10 = .ok (.bipush (-2), 2) := by decide +kernel
theorem dX11_taken_12 : decode cX11_taken 12 = .ok (.ireturn, 1) := by decide +kernel
theorem dX11_taken_13 : decode cX11_taken 13 = .ok (.aload_n 0, 1) := by decide +kernel
theorem dX11_taken_14 : decode cX11_taken 14 = .ok (.iload_n 1, 1) := by decide +kernel
theorem dX11_taken_15 : decode cX11_taken 15 = .ok (.invokevirtual 167, 3) := by decide +kernel
theorem dX11_taken_18 : decode cX11_taken 18 = .ok (.astore_n 3, 1) := by decide +kernel
theorem dX11_taken_19 : decode cX11_taken 19 = .ok (.aload_n 3, 1) := by decide +kernel
theorem dX11_taken_20 : decode cX11_taken 20 = .ok (.ifnonnull 6, 3) := by decide +kernel
theorem dX11_taken_23 : decode cX11_taken 23 = .ok (.bipush (-11), 2) := by decide +kernel
theorem dX11_taken_25 : decode cX11_taken 25 = .ok (.ireturn, 1) := by decide +kernel
theorem dX11_taken_26 : decode cX11_taken 26 = .ok (.aload_n 3, 1) := by decide +kernel
theorem dX11_taken_27 : decode cX11_taken 27 = .ok (.getfield 171, 3) := by decide +kernel
theorem dX11_taken_30 : decode cX11_taken 30 = .ok (.iload_n 2, 1) := by decide +kernel
theorem dX11_taken_31 : decode cX11_taken 31 = .ok (.invokestatic 313, 3) := by decide +kernel
theorem dX11_taken_34 : decode cX11_taken 34 = .ok (.ifCond .eq 10, 3) := by decide +kernel
theorem dX11_taken_37 : decode cX11_taken 37 = .ok (.aload_n 3, 1) := by decide +kernel
theorem dX11_taken_38 : decode cX11_taken 38 = .ok (.getfield 171, 3) := by decide +kernel
theorem dX11_taken_41 : decode cX11_taken 41 = .ok (.goto 5, 3) := by decide +kernel
theorem dX11_taken_44 : decode cX11_taken 44 = .ok (.bipush (-12), 2) := by decide +kernel
theorem dX11_taken_46 : decode cX11_taken 46 = .ok (.ireturn, 1) := by decide +kernel
theorem dX11_count_0 : decode cX11_count 0 = .ok (.iload_n 1, 1) := by decide +kernel
theorem dX11_count_1 : decode cX11_count 1 = .ok (.tableswitch 90 0 6 #[43, 48, 53, 58, 66, 74, 82], 43) := by decide +kernel
theorem dX11_count_44 : decode cX11_count 44 = .ok (.aload_n 0, 1) := by decide +kernel
theorem dX11_count_45 : decode cX11_count 45 = .ok (.getfield 113, 3) := by decide +kernel
theorem dX11_count_48 : decode cX11_count 48 = .ok (.ireturn, 1) := by decide +kernel
theorem dX11_count_49 : decode cX11_count 49 = .ok (.aload_n 0, 1) := by decide +kernel
theorem dX11_count_50 : decode cX11_count 50 = .ok (.getfield 161, 3) := by decide +kernel
theorem dX11_count_53 : decode cX11_count 53 = .ok (.ireturn, 1) := by decide +kernel
theorem dX11_count_54 : decode cX11_count 54 = .ok (.aload_n 0, 1) := by decide +kernel
theorem dX11_count_55 : decode cX11_count 55 = .ok (.getfield 180, 3) := by decide +kernel
theorem dX11_count_58 : decode cX11_count 58 = .ok (.ireturn, 1) := by decide +kernel
theorem dX11_count_59 : decode cX11_count 59 = .ok (.aload_n 0, 1) := by decide +kernel
theorem dX11_count_60 : decode cX11_count 60 = .ok (.getfield 37, 3) := by decide +kernel
theorem dX11_count_63 : decode cX11_count 63 = .ok (.getfield 227, 3) := by decide +kernel
theorem dX11_count_66 : decode cX11_count 66 = .ok (.ireturn, 1) := by decide +kernel
theorem dX11_count_67 : decode cX11_count 67 = .ok (.aload_n 0, 1) := by decide +kernel
theorem dX11_count_68 : decode cX11_count 68 = .ok (.getfield 37, 3) := by decide +kernel
theorem dX11_count_71 : decode cX11_count 71 = .ok (.getfield 214, 3) := by decide +kernel
theorem dX11_count_74 : decode cX11_count 74 = .ok (.ireturn, 1) := by decide +kernel
theorem dX11_count_75 : decode cX11_count 75 = .ok (.aload_n 0, 1) := by decide +kernel
theorem dX11_count_76 : decode cX11_count 76 = .ok (.getfield 12, 3) := by decide +kernel
theorem dX11_count_79 : decode cX11_count 79 = .ok (.getfield 105, 3) := by decide +kernel
theorem dX11_count_82 : decode cX11_count 82 = .ok (.ireturn, 1) := by decide +kernel
theorem dX11_count_83 : decode cX11_count 83 = .ok (.aload_n 0, 1) := by decide +kernel
theorem dX11_count_84 : decode cX11_count 84 = .ok (.getfield 53, 3) := by decide +kernel
theorem dX11_count_87 : decode cX11_count 87 = .ok (.getfield 303, 3) := by decide +kernel
theorem dX11_count_90 : decode cX11_count 90 = .ok (.ireturn, 1) := by decide +kernel
theorem dX11_count_91 : decode cX11_count 91 = .ok (.bipush (-2), 2) := by decide +kernel
theorem dX11_count_93 : decode cX11_count 93 = .ok (.ireturn, 1) := by decide +kernel
theorem dX11_tape_0 : decode cX11_tape 0 = .ok (.aload_n 0, 1) := by decide +kernel
theorem dX11_tape_1 : decode cX11_tape 1 = .ok (.iload_n 1, 1) := by decide +kernel
theorem dX11_tape_2 : decode cX11_tape 2 = .ok (.invokevirtual 279, 3) := by decide +kernel
theorem dX11_tape_5 : decode cX11_tape 5 = .ok (.astore 4, 2) := by decide +kernel
theorem dX11_tape_7 : decode cX11_tape 7 = .ok (.aload 4, 2) := by decide +kernel
theorem dX11_tape_9 : decode cX11_tape 9 = .ok (.ifnonnull 5, 3) := by decide +kernel
theorem dX11_tape_12 : decode cX11_tape 12 = .ok (.iconst (-1), 1) := by decide +kernel
theorem dX11_tape_13 : decode cX11_tape 13 = .ok (.ireturn, 1) := by decide +kernel
theorem dX11_tape_14 : decode cX11_tape 14 = .ok (.iload_n 2, 1) := by decide +kernel
theorem dX11_tape_15 : decode cX11_tape 15 = .ok (.iconst (-1), 1) := by decide +kernel
theorem dX11_tape_16 : decode cX11_tape 16 = .ok (.iconst 4, 1) := by decide +kernel
theorem dX11_tape_17 : decode cX11_tape 17 = .ok (.invokestatic 101, 3) := by decide +kernel
theorem dX11_tape_20 : decode cX11_tape 20 = .ok (.ifCond .eq 14, 3) := by decide +kernel
theorem dX11_tape_23 : decode cX11_tape 23 = .ok (.iload_n 2, 1) := by decide +kernel
theorem dX11_tape_24 : decode cX11_tape 24 = .ok (.iconst (-1), 1) := by decide +kernel
theorem dX11_tape_25 : decode cX11_tape 25 = .ok (.if_icmp .eq 12, 3) := by decide +kernel
theorem dX11_tape_28 : decode cX11_tape 28 = .ok (.iload_n 3, 1) := by decide +kernel
theorem dX11_tape_29 : decode cX11_tape 29 = .ok (.bipush 60, 2) := by decide +kernel
theorem dX11_tape_31 : decode cX11_tape 31 = .ok (.if_icmp .le 6, 3) := by decide +kernel
theorem dX11_tape_34 : decode cX11_tape 34 = .ok (.bipush (-2), 2) := by decide +kernel
theorem dX11_tape_36 : decode cX11_tape 36 = .ok (.ireturn, 1) := by decide +kernel
theorem dX11_tape_37 : decode cX11_tape 37 = .ok (.iload_n 2, 1) := by decide +kernel
theorem dX11_tape_38 : decode cX11_tape 38 = .ok (.iconst (-1), 1) := by decide +kernel
theorem dX11_tape_39 : decode cX11_tape 39 = .ok (.if_icmp .eq 10, 3) := by decide +kernel
theorem dX11_tape_42 : decode cX11_tape 42 = .ok (.iload_n 3, 1) := by decide +kernel
theorem dX11_tape_43 : decode cX11_tape 43 = .ok (.ifCond .ge 6, 3) := by decide +kernel
theorem dX11_tape_46 : decode cX11_tape 46 = .ok (.bipush (-14), 2) := by decide +kernel
theorem dX11_tape_48 : decode cX11_tape 48 = .ok (.ireturn, 1) := by decide +kernel
theorem dX11_tape_49 : decode cX11_tape 49 = .ok (.aload 4, 2) := by decide +kernel
theorem dX11_tape_51 : decode cX11_tape 51 = .ok (.iload_n 2, 1) := by decide +kernel
theorem dX11_tape_52 : decode cX11_tape 52 = .ok (.iload_n 2, 1) := by decide +kernel
theorem dX11_tape_53 : decode cX11_tape 53 = .ok (.iconst (-1), 1) := by decide +kernel
theorem dX11_tape_54 : decode cX11_tape 54 = .ok (.if_icmp .ne 7, 3) := by decide +kernel
theorem dX11_tape_57 : decode cX11_tape 57 = .ok (.iconst 0, 1) := by decide +kernel
theorem dX11_tape_58 : decode cX11_tape 58 = .ok (.goto 4, 3) := by decide +kernel
theorem dX11_tape_61 : decode cX11_tape 61 = .ok (.iload_n 3, 1) := by decide +kernel
theorem dX11_tape_62 : decode cX11_tape 62 = .ok (.invokevirtual 316, 3) := by decide +kernel
theorem dX11_tape_65 : decode cX11_tape 65 = .ok (.iconst 1, 1) := by decide +kernel
theorem dX11_tape_66 : decode cX11_tape 66 = .ok (.ireturn, 1) := by decide +kernel
theorem dX11_item_0 : decode cX11_item 0 = .ok (.aload_n 0, 1) := by decide +kernel
theorem dX11_item_1 : decode cX11_item 1 = .ok (.iload_n 1, 1) := by decide +kernel
theorem dX11_item_2 : decode cX11_item 2 = .ok (.invokevirtual 279, 3) := by decide +kernel
theorem dX11_item_5 : decode cX11_item 5 = .ok (.astore 5, 2) := by decide +kernel
theorem dX11_item_7 : decode cX11_item 7 = .ok (.aload 5, 2) := by decide +kernel
theorem dX11_item_9 : decode cX11_item 9 = .ok (.ifnonnull 5, 3) := by decide +kernel
theorem dX11_item_12 : decode cX11_item 12 = .ok (.iconst (-1), 1) := by decide +kernel
theorem dX11_item_13 : decode cX11_item 13 = .ok (.ireturn, 1) := by decide +kernel
theorem dX11_item_14 : decode cX11_item 14 = .ok (.aload 5, 2) := by decide +kernel
theorem dX11_item_16 : decode cX11_item 16 = .ok (.getfield 283, 3) := by decide +kernel
theorem dX11_item_19 : decode cX11_item 19 = .ok (.iconst (-1), 1) := by decide +kernel
theorem dX11_item_20 : decode cX11_item 20 = .ok (.if_icmp .ne 6, 3) := by decide +kernel
theorem dX11_item_23 : decode cX11_item 23 = .ok (.bipush (-11), 2) := by decide +kernel
theorem dX11_item_25 : decode cX11_item 25 = .ok (.ireturn, 1) := by decide +kernel
theorem dX11_item_26 : decode cX11_item 26 = .ok (.aload 5, 2) := by decide +kernel
theorem dX11_item_28 : decode cX11_item 28 = .ok (.iload_n 2, 1) := by decide +kernel
theorem dX11_item_29 : decode cX11_item 29 = .ok (.invokevirtual 293, 3) := by decide +kernel
theorem dX11_item_32 : decode cX11_item 32 = .ok (.ifCond .ne 6, 3) := by decide +kernel
theorem dX11_item_35 : decode cX11_item 35 = .ok (.bipush (-13), 2) := by decide +kernel
theorem dX11_item_37 : decode cX11_item 37 = .ok (.ireturn, 1) := by decide +kernel
theorem dX11_item_38 : decode cX11_item 38 = .ok (.aload 5, 2) := by decide +kernel
theorem dX11_item_40 : decode cX11_item 40 = .ok (.getfield 319, 3) := by decide +kernel
theorem dX11_item_43 : decode cX11_item 43 = .ok (.iload_n 2, 1) := by decide +kernel
theorem dX11_item_44 : decode cX11_item 44 = .ok (.aload 5, 2) := by decide +kernel
theorem dX11_item_46 : decode cX11_item 46 = .ok (.lload_n 3, 1) := by decide +kernel
theorem dX11_item_47 : decode cX11_item 47 = .ok (.invokevirtual 323, 3) := by decide +kernel
theorem dX11_item_50 : decode cX11_item 50 = .ok (.lastore, 1) := by decide +kernel
theorem dX11_item_51 : decode cX11_item 51 = .ok (.iconst 1, 1) := by decide +kernel
theorem dX11_item_52 : decode cX11_item 52 = .ok (.ireturn, 1) := by decide +kernel
theorem dX11_read_0 : decode cX11_read 0 = .ok (.aload_n 0, 1) := by decide +kernel
theorem dX11_read_1 : decode cX11_read 1 = .ok (.iload_n 1, 1) := by decide +kernel
theorem dX11_read_2 : decode cX11_read 2 = .ok (.invokevirtual 279, 3) := by decide +kernel
theorem dX11_read_5 : decode cX11_read 5 = .ok (.astore_n 3, 1) := by decide +kernel
theorem dX11_read_6 : decode cX11_read 6 = .ok (.aload_n 3, 1) := by decide +kernel
theorem dX11_read_7 : decode cX11_read 7 = .ok (.ifnull 20, 3) := by decide +kernel
theorem dX11_read_10 : decode cX11_read 10 = .ok (.aload_n 3, 1) := by decide +kernel
theorem dX11_read_11 : decode cX11_read 11 = .ok (.iload_n 2, 1) := by decide +kernel
theorem dX11_read_12 : decode cX11_read 12 = .ok (.invokevirtual 293, 3) := by decide +kernel
theorem dX11_read_15 : decode cX11_read 15 = .ok (.ifCond .eq 12, 3) := by decide +kernel
theorem dX11_read_18 : decode cX11_read 18 = .ok (.aload_n 3, 1) := by decide +kernel
theorem dX11_read_19 : decode cX11_read 19 = .ok (.getfield 319, 3) := by decide +kernel
theorem dX11_read_22 : decode cX11_read 22 = .ok (.iload_n 2, 1) := by decide +kernel
theorem dX11_read_23 : decode cX11_read 23 = .ok (.laload, 1) := by decide +kernel
theorem dX11_read_24 : decode cX11_read 24 = .ok (.goto 6, 3) := by decide +kernel
theorem dX11_read_27 : decode cX11_read 27 = .ok (.ldc2_w 259, 3) := by decide +kernel
theorem dX11_read_30 : decode cX11_read 30 = .ok (.lreturn, 1) := by decide +kernel
theorem dX11_shift_0 : decode cX11_shift 0 = .ok (.aload_n 0, 1) := by decide +kernel
theorem dX11_shift_1 : decode cX11_shift 1 = .ok (.iload_n 1, 1) := by decide +kernel
theorem dX11_shift_2 : decode cX11_shift 2 = .ok (.invokevirtual 279, 3) := by decide +kernel
theorem dX11_shift_5 : decode cX11_shift 5 = .ok (.astore 6, 2) := by decide +kernel
theorem dX11_shift_7 : decode cX11_shift 7 = .ok (.aload_n 0, 1) := by decide +kernel
theorem dX11_shift_8 : decode cX11_shift 8 = .ok (.iload_n 3, 1) := by decide +kernel
theorem dX11_shift_9 : decode cX11_shift 9 = .ok (.invokevirtual 279, 3) := by decide +kernel
theorem dX11_shift_12 : decode cX11_shift 12 = .ok (.astore 7, 2) := by decide +kernel
theorem dX11_shift_14 : decode cX11_shift 14 = .ok (.aload 6, 2) := by decide +kernel
theorem dX11_shift_16 : decode cX11_shift 16 = .ok (.ifnull 8, 3) := by decide +kernel
theorem dX11_shift_19 : decode cX11_shift 19 = .ok (.aload 7, 2) := by decide +kernel
theorem dX11_shift_21 : decode cX11_shift 21 = .ok (.ifnonnull 5, 3) := by decide +kernel
theorem dX11_shift_24 : decode cX11_shift 24 = .ok (.iconst (-1), 1) := by decide +kernel
theorem dX11_shift_25 : decode cX11_shift 25 = .ok (.ireturn, 1) := by decide +kernel
theorem dX11_shift_26 : decode cX11_shift 26 = .ok (.aload 6, 2) := by decide +kernel
theorem dX11_shift_28 : decode cX11_shift 28 = .ok (.getfield 283, 3) := by decide +kernel
theorem dX11_shift_31 : decode cX11_shift 31 = .ok (.iconst (-1), 1) := by decide +kernel
theorem dX11_shift_32 : decode cX11_shift 32 = .ok (.if_icmp .eq 12, 3) := by decide +kernel
theorem dX11_shift_35 : decode cX11_shift 35 = .ok (.aload 7, 2) := by decide +kernel
theorem dX11_shift_37 : decode cX11_shift 37 = .ok (.getfield 283, 3) := by decide +kernel
theorem dX11_shift_40 : decode cX11_shift 40 = .ok (.iconst (-1), 1) := by decide +kernel
theorem dX11_shift_41 : decode cX11_shift 41 = .ok (.if_icmp .ne 6, 3) := by decide +kernel
theorem dX11_shift_44 : decode cX11_shift 44 = .ok (.bipush (-11), 2) := by decide +kernel
theorem dX11_shift_46 : decode cX11_shift 46 = .ok (.ireturn, 1) := by decide +kernel
theorem dX11_shift_47 : decode cX11_shift 47 = .ok (.aload 6, 2) := by decide +kernel
theorem dX11_shift_49 : decode cX11_shift 49 = .ok (.getfield 283, 3) := by decide +kernel
theorem dX11_shift_52 : decode cX11_shift 52 = .ok (.aload 7, 2) := by decide +kernel
theorem dX11_shift_54 : decode cX11_shift 54 = .ok (.getfield 283, 3) := by decide +kernel
theorem dX11_shift_57 : decode cX11_shift 57 = .ok (.if_icmp .eq 6, 3) := by decide +kernel
theorem dX11_shift_60 : decode cX11_shift 60 = .ok (.bipush (-12), 2) := by decide +kernel
theorem dX11_shift_62 : decode cX11_shift 62 = .ok (.ireturn, 1) := by decide +kernel
theorem dX11_shift_63 : decode cX11_shift 63 = .ok (.aload 6, 2) := by decide +kernel
theorem dX11_shift_65 : decode cX11_shift 65 = .ok (.iload_n 2, 1) := by decide +kernel
theorem dX11_shift_66 : decode cX11_shift 66 = .ok (.iload 5, 2) := by decide +kernel
theorem dX11_shift_68 : decode cX11_shift 68 = .ok (.invokevirtual 327, 3) := by decide +kernel
theorem dX11_shift_71 : decode cX11_shift 71 = .ok (.ifCond .eq 15, 3) := by decide +kernel
theorem dX11_shift_74 : decode cX11_shift 74 = .ok (.aload 7, 2) := by decide +kernel
theorem dX11_shift_76 : decode cX11_shift 76 = .ok (.iload 4, 2) := by decide +kernel
theorem dX11_shift_78 : decode cX11_shift 78 = .ok (.iload 5, 2) := by decide +kernel
theorem dX11_shift_80 : decode cX11_shift 80 = .ok (.invokevirtual 327, 3) := by decide +kernel
theorem dX11_shift_83 : decode cX11_shift 83 = .ok (.ifCond .ne 6, 3) := by decide +kernel
theorem dX11_shift_86 : decode cX11_shift 86 = .ok (.bipush (-13), 2) := by decide +kernel
theorem dX11_shift_88 : decode cX11_shift 88 = .ok (.ireturn, 1) := by decide +kernel
theorem dX11_shift_89 : decode cX11_shift 89 = .ok (.aload 6, 2) := by decide +kernel
theorem dX11_shift_91 : decode cX11_shift 91 = .ok (.getfield 319, 3) := by decide +kernel
theorem dX11_shift_94 : decode cX11_shift 94 = .ok (.iload_n 2, 1) := by decide +kernel
theorem dX11_shift_95 : decode cX11_shift 95 = .ok (.aload 7, 2) := by decide +kernel
theorem dX11_shift_97 : decode cX11_shift 97 = .ok (.getfield 319, 3) := by decide +kernel
theorem dX11_shift_100 : decode cX11_shift 100 = .ok (.iload 4, 2) := by decide +kernel
theorem dX11_shift_102 : decode cX11_shift 102 = .ok (.iload 5, 2) := by decide +kernel
theorem dX11_shift_104 : decode cX11_shift 104 = .ok (.invokestatic 330, 3) := by decide +kernel
theorem dX11_shift_107 : decode cX11_shift 107 = .ok (.iload 5, 2) := by decide +kernel
theorem dX11_shift_109 : decode cX11_shift 109 = .ok (.ireturn, 1) := by decide +kernel
theorem dX11_within_0 : decode cX11_within 0 = .ok (.iload_n 0, 1) := by decide +kernel
theorem dX11_within_1 : decode cX11_within 1 = .ok (.iload_n 1, 1) := by decide +kernel
theorem dX11_within_2 : decode cX11_within 2 = .ok (.if_icmp .lt 12, 3) := by decide +kernel
theorem dX11_within_5 : decode cX11_within 5 = .ok (.iload_n 0, 1) := by decide +kernel
theorem dX11_within_6 : decode cX11_within 6 = .ok (.iload_n 2, 1) := by decide +kernel
theorem dX11_within_7 : decode cX11_within 7 = .ok (.if_icmp .gt 7, 3) := by decide +kernel
theorem dX11_within_10 : decode cX11_within 10 = .ok (.iconst 1, 1) := by decide +kernel
theorem dX11_within_11 : decode cX11_within 11 = .ok (.goto 4, 3) := by decide +kernel
theorem dX11_within_14 : decode cX11_within 14 = .ok (.iconst 0, 1) := by decide +kernel
theorem dX11_within_15 : decode cX11_within 15 = .ok (.ireturn, 1) := by decide +kernel
theorem dX11_ruleAt_0 : decode cX11_ruleAt 0 = .ok (.iload_n 1, 1) := by decide +kernel
theorem dX11_ruleAt_1 : decode cX11_ruleAt 1 = .ok (.ifCond .lt 20, 3) := by decide +kernel
theorem dX11_ruleAt_4 : decode cX11_ruleAt 4 = .ok (.iload_n 1, 1) := by decide +kernel
theorem dX11_ruleAt_5 : decode cX11_ruleAt 5 = .ok (.aload_n 0, 1) := by decide +kernel
theorem dX11_ruleAt_6 : decode cX11_ruleAt 6 = .ok (.getfield 161, 3) := by decide +kernel
theorem dX11_ruleAt_9 : decode cX11_ruleAt 9 = .ok (.if_icmp .ge 12, 3) := by decide +kernel
theorem dX11_ruleAt_12 : decode cX11_ruleAt 12 = .ok (.aload_n 0, 1) := by decide +kernel
theorem dX11_ruleAt_13 : decode cX11_ruleAt 13 = .ok (.getfield 24, 3) := by decide +kernel
theorem dX11_ruleAt_16 : decode cX11_ruleAt 16 = .ok (.iload_n 1, 1) := by decide +kernel
theorem dX11_ruleAt_17 : decode cX11_ruleAt 17 = .ok (.aaload, 1) := by decide +kernel
theorem dX11_ruleAt_18 : decode cX11_ruleAt 18 = .ok (.goto 4, 3) := by decide +kernel
theorem dX11_ruleAt_21 : decode cX11_ruleAt 21 = .ok (.aconst_null, 1) := by decide +kernel
theorem dX11_ruleAt_22 : decode cX11_ruleAt 22 = .ok (.areturn, 1) := by decide +kernel
theorem dX11_caravanAt_0 : decode cX11_caravanAt 0 = .ok (.iload_n 1, 1) := by decide +kernel
theorem dX11_caravanAt_1 : decode cX11_caravanAt 1 = .ok (.ifCond .lt 20, 3) := by decide +kernel
theorem dX11_caravanAt_4 : decode cX11_caravanAt 4 = .ok (.iload_n 1, 1) := by decide +kernel
theorem dX11_caravanAt_5 : decode cX11_caravanAt 5 = .ok (.aload_n 0, 1) := by decide +kernel
theorem dX11_caravanAt_6 : decode cX11_caravanAt 6 = .ok (.getfield 180, 3) := by decide +kernel
theorem dX11_caravanAt_9 : decode cX11_caravanAt 9 = .ok (.if_icmp .ge 12, 3) := by decide +kernel
theorem dX11_caravanAt_12 : decode cX11_caravanAt 12 = .ok (.aload_n 0, 1) := by decide +kernel
theorem dX11_caravanAt_13 : decode cX11_caravanAt 13 = .ok (.getfield 30, 3) := by decide +kernel
theorem dX11_caravanAt_16 : decode cX11_caravanAt 16 = .ok (.iload_n 1, 1) := by decide +kernel
theorem dX11_caravanAt_17 : decode cX11_caravanAt 17 = .ok (.aaload, 1) := by decide +kernel
theorem dX11_caravanAt_18 : decode cX11_caravanAt 18 = .ok (.goto 4, 3) := by decide +kernel
theorem dX11_caravanAt_21 : decode cX11_caravanAt 21 = .ok (.aconst_null, 1) := by decide +kernel
theorem dX11_caravanAt_22 : decode cX11_caravanAt 22 = .ok (.areturn, 1) := by decide +kernel
theorem dX11_tapeAt_0 : decode cX11_tapeAt 0 = .ok (.iload_n 1, 1) := by decide +kernel
theorem dX11_tapeAt_1 : decode cX11_tapeAt 1 = .ok (.ifCond .lt 18, 3) := by decide +kernel
theorem dX11_tapeAt_4 : decode cX11_tapeAt 4 = .ok (.iload_n 1, 1) := by decide +kernel
theorem dX11_tapeAt_5 : decode cX11_tapeAt 5 = .ok (.bipush 6, 2) := by decide +kernel
theorem dX11_tapeAt_7 : decode cX11_tapeAt 7 = .ok (.if_icmp .ge 12, 3) := by decide +kernel
theorem dX11_tapeAt_10 : decode cX11_tapeAt 10 = .ok (.aload_n 0, 1) := by decide +kernel
theorem dX11_tapeAt_11 : decode cX11_tapeAt 11 = .ok (.getfield 46, 3) := by decide +kernel
theorem dX11_tapeAt_14 : decode cX11_tapeAt 14 = .ok (.iload_n 1, 1) := by decide +kernel
theorem dX11_tapeAt_15 : decode cX11_tapeAt 15 = .ok (.aaload, 1) := by decide +kernel
theorem dX11_tapeAt_16 : decode cX11_tapeAt 16 = .ok (.goto 4, 3) := by decide +kernel
theorem dX11_tapeAt_19 : decode cX11_tapeAt 19 = .ok (.aconst_null, 1) := by decide +kernel
theorem dX11_tapeAt_20 : decode cX11_tapeAt 20 = .ok (.areturn, 1) := by decide +kernel
theorem dX11_isUnder_0 : decode cX11_isUnder 0 = .ok (.iload_n 0, 1) := by decide +kernel
theorem dX11_isUnder_1 : decode cX11_isUnder 1 = .ok (.istore_n 2, 1) := by decide +kernel
theorem dX11_isUnder_2 : decode cX11_isUnder 2 = .ok (.iconst 0, 1) := by decide +kernel
theorem dX11_isUnder_3 : decode cX11_isUnder 3 = .ok (.istore_n 3, 1) := by decide +kernel
theorem dX11_isUnder_4 : decode cX11_isUnder 4 = .ok (.iload_n 3, 1) := by decide +kernel
theorem dX11_isUnder_5 : decode cX11_isUnder 5 = .ok (.getstatic 336, 3) := by decide +kernel
theorem dX11_isUnder_8 : decode cX11_isUnder 8 = .ok (.arraylength, 1) := by decide +kernel
theorem dX11_isUnder_9 : decode cX11_isUnder 9 = .ok (.if_icmp .ge 34, 3) := by decide +kernel
theorem dX11_isUnder_12 : decode cX11_isUnder 12 = .ok (.iload_n 2, 1) := by decide +kernel
theorem dX11_isUnder_13 : decode cX11_isUnder 13 = .ok (.ifCond .lt 30, 3) := by decide +kernel
theorem dX11_isUnder_16 : decode cX11_isUnder 16 = .ok (.iload_n 2, 1) := by decide +kernel
theorem dX11_isUnder_17 : decode cX11_isUnder 17 = .ok (.getstatic 336, 3) := by decide +kernel
theorem dX11_isUnder_20 : decode cX11_isUnder 20 = .ok (.arraylength, 1) := by decide +kernel
theorem dX11_isUnder_21 : decode cX11_isUnder 21 = .ok (.if_icmp .ge 22, 3) := by decide +kernel
theorem dX11_isUnder_24 : decode cX11_isUnder 24 = .ok (.iload_n 2, 1) := by decide +kernel
theorem dX11_isUnder_25 : decode cX11_isUnder 25 = .ok (.iload_n 1, 1) := by decide +kernel
theorem dX11_isUnder_26 : decode cX11_isUnder 26 = .ok (.if_icmp .ne 5, 3) := by decide +kernel
theorem dX11_isUnder_29 : decode cX11_isUnder 29 = .ok (.iconst 1, 1) := by decide +kernel
theorem dX11_isUnder_30 : decode cX11_isUnder 30 = .ok (.ireturn, 1) := by decide +kernel
theorem dX11_isUnder_31 : decode cX11_isUnder 31 = .ok (.getstatic 336, 3) := by decide +kernel
theorem dX11_isUnder_34 : decode cX11_isUnder 34 = .ok (.iload_n 2, 1) := by decide +kernel
theorem dX11_isUnder_35 : decode cX11_isUnder 35 = .ok (.iaload, 1) := by decide +kernel
theorem dX11_isUnder_36 : decode cX11_isUnder 36 = .ok (.istore_n 2, 1) := by decide +kernel
theorem dX11_isUnder_37 : decode cX11_isUnder 37 = .ok (.iinc 3 1, 3) := by decide +kernel
theorem dX11_isUnder_40 : decode cX11_isUnder 40 = .ok (.goto (-36), 3) := by decide +kernel
theorem dX11_isUnder_43 : decode cX11_isUnder 43 = .ok (.iconst 0, 1) := by decide +kernel
theorem dX11_isUnder_44 : decode cX11_isUnder 44 = .ok (.ireturn, 1) := by decide +kernel
theorem dX11_isAskedOfTrip_0 : decode cX11_isAskedOfTrip 0 = .ok (.iload_n 0, 1) := by decide +kernel
theorem dX11_isAskedOfTrip_1 : decode cX11_isAskedOfTrip 1 = .ok (.iconst 0, 1) := by decide +kernel
theorem dX11_isAskedOfTrip_2 : decode cX11_isAskedOfTrip 2 = .ok (.iconst 2, 1) := by decide +kernel
theorem dX11_isAskedOfTrip_3 : decode cX11_isAskedOfTrip 3 = .ok (.invokestatic 101, 3) := by decide +kernel
theorem dX11_isAskedOfTrip_6 : decode cX11_isAskedOfTrip 6 = .ok (.ifCond .ne 25, 3) := by decide +kernel
theorem dX11_isAskedOfTrip_9 : decode cX11_isAskedOfTrip 9 = .ok (.iload_n 0, 1) := by decide +kernel
theorem dX11_isAskedOfTrip_10 : decode cX11_isAskedOfTrip 10 = .ok (.bipush 10, 2) := by decide +kernel
theorem dX11_isAskedOfTrip_12 : decode cX11_isAskedOfTrip 12 = .ok (.bipush 14, 2) := by decide +kernel
theorem dX11_isAskedOfTrip_14 : decode cX11_isAskedOfTrip 14 = .ok (.invokestatic 101, 3) := by decide +kernel
theorem dX11_isAskedOfTrip_17 : decode cX11_isAskedOfTrip 17 = .ok (.ifCond .ne 14, 3) := by decide +kernel
theorem dX11_isAskedOfTrip_20 : decode cX11_isAskedOfTrip 20 = .ok (.iload_n 0, 1) := by decide +kernel
theorem dX11_isAskedOfTrip_21 : decode cX11_isAskedOfTrip 21 = .ok (.bipush 20, 2) := by decide +kernel
theorem dX11_isAskedOfTrip_23 : decode cX11_isAskedOfTrip 23 = .ok (.bipush 24, 2) := by decide +kernel
theorem dX11_isAskedOfTrip_25 : decode cX11_isAskedOfTrip 25 = .ok (.invokestatic 101, 3) := by decide +kernel
theorem dX11_isAskedOfTrip_28 : decode cX11_isAskedOfTrip 28 = .ok (.ifCond .eq 7, 3) := by decide +kernel
theorem dX11_isAskedOfTrip_31 : decode cX11_isAskedOfTrip 31 = .ok (.iconst 1, 1) := by decide +kernel
theorem dX11_isAskedOfTrip_32 : decode cX11_isAskedOfTrip 32 = .ok (.goto 4, 3) := by decide +kernel
theorem dX11_isAskedOfTrip_35 : decode cX11_isAskedOfTrip 35 = .ok (.iconst 0, 1) := by decide +kernel
theorem dX11_isAskedOfTrip_36 : decode cX11_isAskedOfTrip 36 = .ok (.ireturn, 1) := by decide +kernel
theorem dX11_tellTrip_0 : decode cX11_tellTrip 0 = .ok (.iload_n 1, 1) := by decide +kernel
theorem dX11_tellTrip_1 : decode cX11_tellTrip 1 = .ok (.tableswitch 49 0 2 #[27, 35, 43], 27) := by decide +kernel
theorem dX11_tellTrip_28 : decode cX11_tellTrip 28 = .ok (.aload_n 0, 1) := by decide +kernel
theorem dX11_tellTrip_29 : decode cX11_tellTrip 29 = .ok (.getfield 60, 3) := by decide +kernel
theorem dX11_tellTrip_32 : decode cX11_tellTrip 32 = .ok (.getfield 208, 3) := by decide +kernel
theorem dX11_tellTrip_35 : decode cX11_tellTrip 35 = .ok (.ireturn, 1) := by decide +kernel
theorem dX11_tellTrip_36 : decode cX11_tellTrip 36 = .ok (.aload_n 0, 1) := by decide +kernel
theorem dX11_tellTrip_37 : decode cX11_tellTrip 37 = .ok (.getfield 60, 3) := by decide +kernel
theorem dX11_tellTrip_40 : decode cX11_tellTrip 40 = .ok (.getfield 290, 3) := by decide +kernel
theorem dX11_tellTrip_43 : decode cX11_tellTrip 43 = .ok (.ireturn, 1) := by decide +kernel
theorem dX11_tellTrip_44 : decode cX11_tellTrip 44 = .ok (.aload_n 0, 1) := by decide +kernel
theorem dX11_tellTrip_45 : decode cX11_tellTrip 45 = .ok (.iload_n 2, 1) := by decide +kernel
theorem dX11_tellTrip_46 : decode cX11_tellTrip 46 = .ok (.invokevirtual 224, 3) := by decide +kernel
theorem dX11_tellTrip_49 : decode cX11_tellTrip 49 = .ok (.ireturn, 1) := by decide +kernel
theorem dX11_tellTrip_50 : decode cX11_tellTrip 50 = .ok (.iload_n 1, 1) := by decide +kernel
theorem dX11_tellTrip_51 : decode cX11_tellTrip 51 = .ok (.bipush 10, 2) := by decide +kernel
theorem dX11_tellTrip_53 : decode cX11_tellTrip 53 = .ok (.irem, 1) := by decide +kernel
theorem dX11_tellTrip_54 : decode cX11_tellTrip 54 = .ok (.istore_n 3, 1) := by decide +kernel
theorem dX11_tellTrip_55 : decode cX11_tellTrip 55 = .ok (.iload_n 3, 1) := by decide +kernel
theorem dX11_tellTrip_56 : decode cX11_tellTrip 56 = .ok (.aload_n 0, 1) := by decide +kernel
theorem dX11_tellTrip_57 : decode cX11_tellTrip 57 = .ok (.getfield 37, 3) := by decide +kernel
theorem dX11_tellTrip_60 : decode cX11_tellTrip 60 = .ok (.getfield 120, 3) := by decide +kernel
theorem dX11_tellTrip_63 : decode cX11_tellTrip 63 = .ok (.getfield 134, 3) := by decide +kernel
theorem dX11_tellTrip_66 : decode cX11_tellTrip 66 = .ok (.if_icmp .lt 5, 3) := by decide +kernel
theorem dX11_tellTrip_69 : decode cX11_tellTrip 69 = .ok (.iconst (-1), 1) := by decide +kernel
theorem dX11_tellTrip_70 : decode cX11_tellTrip 70 = .ok (.ireturn, 1) := by decide +kernel
theorem dX11_tellTrip_71 : decode cX11_tellTrip 71 = .ok (.iload_n 1, 1) := by decide +kernel
theorem dX11_tellTrip_72 : decode cX11_tellTrip 72 = .ok (.bipush 20, 2) := by decide +kernel
theorem dX11_tellTrip_74 : decode cX11_tellTrip 74 = .ok (.if_icmp .ge 15, 3) := by decide +kernel
theorem dX11_tellTrip_77 : decode cX11_tellTrip 77 = .ok (.aload_n 0, 1) := by decide +kernel
theorem dX11_tellTrip_78 : decode cX11_tellTrip 78 = .ok (.getfield 60, 3) := by decide +kernel
theorem dX11_tellTrip_81 : decode cX11_tellTrip 81 = .ok (.getfield 339, 3) := by decide +kernel
theorem dX11_tellTrip_84 : decode cX11_tellTrip 84 = .ok (.iload_n 3, 1) := by decide +kernel
theorem dX11_tellTrip_85 : decode cX11_tellTrip 85 = .ok (.iaload, 1) := by decide +kernel
theorem dX11_tellTrip_86 : decode cX11_tellTrip 86 = .ok (.goto 12, 3) := by decide +kernel
theorem dX11_tellTrip_89 : decode cX11_tellTrip 89 = .ok (.aload_n 0, 1) := by decide +kernel
theorem dX11_tellTrip_90 : decode cX11_tellTrip 90 = .ok (.getfield 60, 3) := by decide +kernel
theorem dX11_tellTrip_93 : decode cX11_tellTrip 93 = .ok (.getfield 342, 3) := by decide +kernel
theorem dX11_tellTrip_96 : decode cX11_tellTrip 96 = .ok (.iload_n 3, 1) := by decide +kernel
theorem dX11_tellTrip_97 : decode cX11_tellTrip 97 = .ok (.iaload, 1) := by decide +kernel
theorem dX11_tellTrip_98 : decode cX11_tellTrip 98 = .ok (.ireturn, 1) := by decide +kernel
theorem dX11_worthOf_0 : decode cX11_worthOf 0 = .ok (.aload_n 0, 1) := by decide +kernel
theorem dX11_worthOf_1 : decode cX11_worthOf 1 = .ok (.getfield 60, 3) := by decide +kernel
theorem dX11_worthOf_4 : decode cX11_worthOf 4 = .ok (.getfield 208, 3) := by decide +kernel
theorem dX11_worthOf_7 : decode cX11_worthOf 7 = .ok (.bipush (-5), 2) := by decide +kernel
theorem dX11_worthOf_9 : decode cX11_worthOf 9 = .ok (.if_icmp .ne 7, 3) := by decide +kernel
theorem dX11_worthOf_12 : decode cX11_worthOf 12 = .ok (.iconst 0, 1) := by decide +kernel
theorem dX11_worthOf_13 : decode cX11_worthOf 13 = .ok (.goto 15, 3) := by decide +kernel
theorem dX11_worthOf_16 : decode cX11_worthOf 16 = .ok (.aload_n 0, 1) := by decide +kernel
theorem dX11_worthOf_17 : decode cX11_worthOf 17 = .ok (.getfield 37, 3) := by decide +kernel
theorem dX11_worthOf_20 : decode cX11_worthOf 20 = .ok (.getfield 120, 3) := by decide +kernel
theorem dX11_worthOf_23 : decode cX11_worthOf 23 = .ok (.getfield 345, 3) := by decide +kernel
theorem dX11_worthOf_26 : decode cX11_worthOf 26 = .ok (.iload_n 1, 1) := by decide +kernel
theorem dX11_worthOf_27 : decode cX11_worthOf 27 = .ok (.imul, 1) := by decide +kernel
theorem dX11_worthOf_28 : decode cX11_worthOf 28 = .ok (.ireturn, 1) := by decide +kernel
theorem dX11_send_0 : decode cX11_send 0 = .ok (.aconst_null, 1) := by decide +kernel
theorem dX11_send_1 : decode cX11_send 1 = .ok (.astore 4, 2) := by decide +kernel
theorem dX11_send_3 : decode cX11_send 3 = .ok (.aload_n 3, 1) := by decide +kernel
theorem dX11_send_4 : decode cX11_send 4 = .ok (.getfield 348, 3) := by decide +kernel
theorem dX11_send_7 : decode cX11_send 7 = .ok (.getfield 171, 3) := by decide +kernel
theorem dX11_send_10 : decode cX11_send 10 = .ok (.iconst 3, 1) := by decide +kernel
theorem dX11_send_11 : decode cX11_send 11 = .ok (.if_icmp .ne 15, 3) := by decide +kernel
theorem dX11_send_14 : decode cX11_send 14 = .ok (.aload_n 3, 1) := by decide +kernel
theorem dX11_send_15 : decode cX11_send 15 = .ok (.getfield 348, 3) := by decide +kernel
theorem dX11_send_18 : decode cX11_send 18 = .ok (.getfield 177, 3) := by decide +kernel
theorem dX11_send_21 : decode cX11_send 21 = .ok (.astore 4, 2) := by decide +kernel
theorem dX11_send_23 : decode cX11_send 23 = .ok (.goto 41, 3) := by decide +kernel
theorem dX11_send_26 : decode cX11_send 26 = .ok (.aload_n 3, 1) := by decide +kernel
theorem dX11_send_27 : decode cX11_send 27 = .ok (.getfield 348, 3) := by decide +kernel
theorem dX11_send_30 : decode cX11_send 30 = .ok (.getfield 171, 3) := by decide +kernel
theorem dX11_send_33 : decode cX11_send 33 = .ok (.iconst 5, 1) := by decide +kernel
theorem dX11_send_34 : decode cX11_send 34 = .ok (.if_icmp .ne 30, 3) := by decide +kernel
theorem dX11_send_37 : decode cX11_send 37 = .ok (.aload_n 0, 1) := by decide +kernel
theorem dX11_send_38 : decode cX11_send 38 = .ok (.getfield 67, 3) := by decide +kernel
theorem dX11_send_41 : decode cX11_send 41 = .ok (.aload_n 1, 1) := by decide +kernel
theorem dX11_send_42 : decode cX11_send 42 = .ok (.aload_n 2, 1) := by decide +kernel
theorem dX11_send_43 : decode cX11_send 43 = .ok (.aload_n 3, 1) := by decide +kernel
theorem dX11_send_44 : decode cX11_send 44 = .ok (.invokevirtual 275, 3) := by decide +kernel
theorem dX11_send_47 : decode cX11_send 47 = .ok (.pop, 1) := by decide +kernel
theorem dX11_send_48 : decode cX11_send 48 = .ok (.aload_n 0, 1) := by decide +kernel
theorem dX11_send_49 : decode cX11_send 49 = .ok (.getfield 67, 3) := by decide +kernel
theorem dX11_send_52 : decode cX11_send 52 = .ok (.invokevirtual 352, 3) := by decide +kernel
theorem dX11_send_55 : decode cX11_send 55 = .ok (.aload_n 0, 1) := by decide +kernel
theorem dX11_send_56 : decode cX11_send 56 = .ok (.getfield 67, 3) := by decide +kernel
theorem dX11_send_59 : decode cX11_send 59 = .ok (.getfield 355, 3) := by decide +kernel
theorem dX11_send_62 : decode cX11_send 62 = .ok (.astore 4, 2) := by decide +kernel
theorem dX11_send_64 : decode cX11_send 64 = .ok (.aload_n 0, 1) := by decide +kernel
theorem dX11_send_65 : decode cX11_send 65 = .ok (.getfield 60, 3) := by decide +kernel
theorem dX11_send_68 : decode cX11_send 68 = .ok (.aload_n 1, 1) := by decide +kernel
theorem dX11_send_69 : decode cX11_send 69 = .ok (.aload_n 2, 1) := by decide +kernel
theorem dX11_send_70 : decode cX11_send 70 = .ok (.aload_n 3, 1) := by decide +kernel
theorem dX11_send_71 : decode cX11_send 71 = .ok (.aload 4, 2) := by decide +kernel
theorem dX11_send_73 : decode cX11_send 73 = .ok (.invokevirtual 220, 3) := by decide +kernel
theorem dX11_send_76 : decode cX11_send 76 = .ok (.return_, 1) := by decide +kernel
theorem dX11_sendSeveral_0 : decode cX11_sendSeveral 0 = .ok (.aload_n 0, 1) := by decide +kernel
theorem dX11_sendSeveral_1 : decode cX11_sendSeveral 1 = .ok (.getfield 81, 3) := by decide +kernel
theorem dX11_sendSeveral_4 : decode cX11_sendSeveral 4 = .ok (.aload_n 0, 1) := by decide +kernel
theorem dX11_sendSeveral_5 : decode cX11_sendSeveral 5 = .ok (.getfield 37, 3) := by decide +kernel
theorem dX11_sendSeveral_8 : decode cX11_sendSeveral 8 = .ok (.getfield 123, 3) := by decide +kernel
theorem dX11_sendSeveral_11 : decode cX11_sendSeveral 11 = .ok (.invokevirtual 195, 3) := by decide +kernel
theorem dX11_sendSeveral_14 : decode cX11_sendSeveral 14 = .ok (.aload_n 0, 1) := by decide +kernel
theorem dX11_sendSeveral_15 : decode cX11_sendSeveral 15 = .ok (.getfield 74, 3) := by decide +kernel
theorem dX11_sendSeveral_18 : decode cX11_sendSeveral 18 = .ok (.invokevirtual 356, 3) := by decide +kernel
theorem dX11_sendSeveral_21 : decode cX11_sendSeveral 21 = .ok (.iconst 0, 1) := by decide +kernel
theorem dX11_sendSeveral_22 : decode cX11_sendSeveral 22 = .ok (.istore_n 2, 1) := by decide +kernel
theorem dX11_sendSeveral_23 : decode cX11_sendSeveral 23 = .ok (.iload_n 2, 1) := by decide +kernel
theorem dX11_sendSeveral_24 : decode cX11_sendSeveral 24 = .ok (.aload_n 0, 1) := by decide +kernel
theorem dX11_sendSeveral_25 : decode cX11_sendSeveral 25 = .ok (.getfield 37, 3) := by decide +kernel
theorem dX11_sendSeveral_28 : decode cX11_sendSeveral 28 = .ok (.getfield 227, 3) := by decide +kernel
theorem dX11_sendSeveral_31 : decode cX11_sendSeveral 31 = .ok (.if_icmp .ge 80, 3) := by decide +kernel
theorem dX11_sendSeveral_34 : decode cX11_sendSeveral 34 = .ok (.getstatic 243, 3) := by decide +kernel
theorem dX11_sendSeveral_37 : decode cX11_sendSeveral 37 = .ok (.iload_n 1, 1) := by decide +kernel
theorem dX11_sendSeveral_38 : decode cX11_sendSeveral 38 = .ok (.iconst 3, 1) := by decide +kernel
theorem dX11_sendSeveral_39 : decode cX11_sendSeveral 39 = .ok (.imul, 1) := by decide +kernel
theorem dX11_sendSeveral_40 : decode cX11_sendSeveral 40 = .ok (.iload_n 2, 1) := by decide +kernel
theorem dX11_sendSeveral_41 : decode cX11_sendSeveral 41 = .ok (.iadd, 1) := by decide +kernel
theorem dX11_sendSeveral_42 : decode cX11_sendSeveral 42 = .ok (.iaload, 1) := by decide +kernel
theorem dX11_sendSeveral_43 : decode cX11_sendSeveral 43 = .ok (.istore_n 3, 1) := by decide +kernel
theorem dX11_sendSeveral_44 : decode cX11_sendSeveral 44 = .ok (.aload_n 0, 1) := by decide +kernel
theorem dX11_sendSeveral_45 : decode cX11_sendSeveral 45 = .ok (.aload_n 0, 1) := by decide +kernel
theorem dX11_sendSeveral_46 : decode cX11_sendSeveral 46 = .ok (.getfield 37, 3) := by decide +kernel
theorem dX11_sendSeveral_49 : decode cX11_sendSeveral 49 = .ok (.getfield 230, 3) := by decide +kernel
theorem dX11_sendSeveral_52 : decode cX11_sendSeveral 52 = .ok (.iload_n 3, 1) := by decide +kernel
theorem dX11_sendSeveral_53 : decode cX11_sendSeveral 53 = .ok (.iaload, 1) := by decide +kernel
theorem dX11_sendSeveral_54 : decode cX11_sendSeveral 54 = .ok (.invokevirtual 187, 3) := by decide +kernel
theorem dX11_sendSeveral_57 : decode cX11_sendSeveral 57 = .ok (.astore 4, 2) := by decide +kernel
theorem dX11_sendSeveral_59 : decode cX11_sendSeveral 59 = .ok (.aload 4, 2) := by decide +kernel
theorem dX11_sendSeveral_61 : decode cX11_sendSeveral 61 = .ok (.ifnull 44, 3) := by decide +kernel
theorem dX11_sendSeveral_64 : decode cX11_sendSeveral 64 = .ok (.aload_n 0, 1) := by decide +kernel
theorem dX11_sendSeveral_65 : decode cX11_sendSeveral 65 = .ok (.aload_n 0, 1) := by decide +kernel
theorem dX11_sendSeveral_66 : decode cX11_sendSeveral 66 = .ok (.getfield 37, 3) := by decide +kernel
theorem dX11_sendSeveral_69 : decode cX11_sendSeveral 69 = .ok (.getfield 120, 3) := by decide +kernel
theorem dX11_sendSeveral_72 : decode cX11_sendSeveral 72 = .ok (.aload_n 0, 1) := by decide +kernel
theorem dX11_sendSeveral_73 : decode cX11_sendSeveral 73 = .ok (.getfield 81, 3) := by decide +kernel
theorem dX11_sendSeveral_76 : decode cX11_sendSeveral 76 = .ok (.aload 4, 2) := by decide +kernel
theorem dX11_sendSeveral_78 : decode cX11_sendSeveral 78 = .ok (.invokevirtual 198, 3) := by decide +kernel
theorem dX11_sendSeveral_81 : decode cX11_sendSeveral 81 = .ok (.aload_n 0, 1) := by decide +kernel
theorem dX11_sendSeveral_82 : decode cX11_sendSeveral 82 = .ok (.getfield 74, 3) := by decide +kernel
theorem dX11_sendSeveral_85 : decode cX11_sendSeveral 85 = .ok (.iload_n 3, 1) := by decide +kernel
theorem dX11_sendSeveral_86 : decode cX11_sendSeveral 86 = .ok (.aload_n 0, 1) := by decide +kernel
theorem dX11_sendSeveral_87 : decode cX11_sendSeveral 87 = .ok (.getfield 60, 3) := by decide +kernel
theorem dX11_sendSeveral_90 : decode cX11_sendSeveral 90 = .ok (.getfield 208, 3) := by decide +kernel
theorem dX11_sendSeveral_93 : decode cX11_sendSeveral 93 = .ok (.aload_n 0, 1) := by decide +kernel
theorem dX11_sendSeveral_94 : decode cX11_sendSeveral 94 = .ok (.aload 4, 2) := by decide +kernel
theorem dX11_sendSeveral_96 : decode cX11_sendSeveral 96 = .ok (.getfield 202, 3) := by decide +kernel
theorem dX11_sendSeveral_99 : decode cX11_sendSeveral 99 = .ok (.invokevirtual 224, 3) := by decide +kernel
theorem dX11_sendSeveral_102 : decode cX11_sendSeveral 102 = .ok (.invokevirtual 359, 3) := by decide +kernel
theorem dX11_sendSeveral_105 : decode cX11_sendSeveral 105 = .ok (.iinc 2 1, 3) := by decide +kernel
theorem dX11_sendSeveral_108 : decode cX11_sendSeveral 108 = .ok (.goto (-85), 3) := by decide +kernel
theorem dX11_sendSeveral_111 : decode cX11_sendSeveral 111 = .ok (.return_, 1) := by decide +kernel
theorem dX11_isOrderOf_0 : decode cX11_isOrderOf 0 = .ok (.iload_n 1, 1) := by decide +kernel
theorem dX11_isOrderOf_1 : decode cX11_isOrderOf 1 = .ok (.istore_n 2, 1) := by decide +kernel
theorem dX11_isOrderOf_2 : decode cX11_isOrderOf 2 = .ok (.iload_n 2, 1) := by decide +kernel
theorem dX11_isOrderOf_3 : decode cX11_isOrderOf 3 = .ok (.iconst 3, 1) := by decide +kernel
theorem dX11_isOrderOf_4 : decode cX11_isOrderOf 4 = .ok (.if_icmp .ge 24, 3) := by decide +kernel
theorem dX11_isOrderOf_7 : decode cX11_isOrderOf 7 = .ok (.getstatic 243, 3) := by decide +kernel
theorem dX11_isOrderOf_10 : decode cX11_isOrderOf 10 = .ok (.iload_n 0, 1) := by decide +kernel
theorem dX11_isOrderOf_11 : decode cX11_isOrderOf 11 = .ok (.iconst 3, 1) := by decide +kernel
theorem dX11_isOrderOf_12 : decode cX11_isOrderOf 12 = .ok (.imul, 1) := by decide +kernel
theorem dX11_isOrderOf_13 : decode cX11_isOrderOf 13 = .ok (.iload_n 2, 1) := by decide +kernel
theorem dX11_isOrderOf_14 : decode cX11_isOrderOf 14 = .ok (.iadd, 1) := by decide +kernel
theorem dX11_isOrderOf_15 : decode cX11_isOrderOf 15 = .ok (.iaload, 1) := by decide +kernel
theorem dX11_isOrderOf_16 : decode cX11_isOrderOf 16 = .ok (.iload_n 2, 1) := by decide +kernel
theorem dX11_isOrderOf_17 : decode cX11_isOrderOf 17 = .ok (.if_icmp .eq 5, 3) := by decide +kernel
theorem dX11_isOrderOf_20 : decode cX11_isOrderOf 20 = .ok (.iconst 0, 1) := by decide +kernel
theorem dX11_isOrderOf_21 : decode cX11_isOrderOf 21 = .ok (.ireturn, 1) := by decide +kernel
theorem dX11_isOrderOf_22 : decode cX11_isOrderOf 22 = .ok (.iinc 2 1, 3) := by decide +kernel
theorem dX11_isOrderOf_25 : decode cX11_isOrderOf 25 = .ok (.goto (-23), 3) := by decide +kernel
theorem dX11_isOrderOf_28 : decode cX11_isOrderOf 28 = .ok (.iconst 1, 1) := by decide +kernel
theorem dX11_isOrderOf_29 : decode cX11_isOrderOf 29 = .ok (.ireturn, 1) := by decide +kernel
theorem dX11_weightOf_0 : decode cX11_weightOf 0 = .ok (.iconst 1, 1) := by decide +kernel
theorem dX11_weightOf_1 : decode cX11_weightOf 1 = .ok (.istore_n 2, 1) := by decide +kernel
theorem dX11_weightOf_2 : decode cX11_weightOf 2 = .ok (.iconst 0, 1) := by decide +kernel
theorem dX11_weightOf_3 : decode cX11_weightOf 3 = .ok (.istore_n 3, 1) := by decide +kernel
theorem dX11_weightOf_4 : decode cX11_weightOf 4 = .ok (.iload_n 3, 1) := by decide +kernel
theorem dX11_weightOf_5 : decode cX11_weightOf 5 = .ok (.aload_n 0, 1) := by decide +kernel
theorem dX11_weightOf_6 : decode cX11_weightOf 6 = .ok (.getfield 37, 3) := by decide +kernel
theorem dX11_weightOf_9 : decode cX11_weightOf 9 = .ok (.getfield 120, 3) := by decide +kernel
theorem dX11_weightOf_12 : decode cX11_weightOf 12 = .ok (.getfield 134, 3) := by decide +kernel
theorem dX11_weightOf_15 : decode cX11_weightOf 15 = .ok (.if_icmp .ge 57, 3) := by decide +kernel
theorem dX11_weightOf_18 : decode cX11_weightOf 18 = .ok (.iload_n 1, 1) := by decide +kernel
theorem dX11_weightOf_19 : decode cX11_weightOf 19 = .ok (.iload_n 3, 1) := by decide +kernel
theorem dX11_weightOf_20 : decode cX11_weightOf 20 = .ok (.ishr, 1) := by decide +kernel
theorem dX11_weightOf_21 : decode cX11_weightOf 21 = .ok (.iconst 1, 1) := by decide +kernel
theorem dX11_weightOf_22 : decode cX11_weightOf 22 = .ok (.iand, 1) := by decide +kernel
theorem dX11_weightOf_23 : decode cX11_weightOf 23 = .ok (.iconst 1, 1) := by decide +kernel
theorem dX11_weightOf_24 : decode cX11_weightOf 24 = .ok (.if_icmp .ne 7, 3) := by decide +kernel
theorem dX11_weightOf_27 : decode cX11_weightOf 27 = .ok (.iconst 1, 1) := by decide +kernel
theorem dX11_weightOf_28 : decode cX11_weightOf 28 = .ok (.goto 4, 3) := by decide +kernel
theorem dX11_weightOf_31 : decode cX11_weightOf 31 = .ok (.iconst 0, 1) := by decide +kernel
theorem dX11_weightOf_32 : decode cX11_weightOf 32 = .ok (.istore 4, 2) := by decide +kernel
theorem dX11_weightOf_34 : decode cX11_weightOf 34 = .ok (.iload_n 2, 1) := by decide +kernel
theorem dX11_weightOf_35 : decode cX11_weightOf 35 = .ok (.iload 4, 2) := by decide +kernel
theorem dX11_weightOf_37 : decode cX11_weightOf 37 = .ok (.ifCond .eq 15, 3) := by decide +kernel
theorem dX11_weightOf_40 : decode cX11_weightOf 40 = .ok (.aload_n 0, 1) := by decide +kernel
theorem dX11_weightOf_41 : decode cX11_weightOf 41 = .ok (.getfield 37, 3) := by decide +kernel
theorem dX11_weightOf_44 : decode cX11_weightOf 44 = .ok (.getfield 153, 3) := by decide +kernel
theorem dX11_weightOf_47 : decode cX11_weightOf 47 = .ok (.iload_n 3, 1) := by decide +kernel
theorem dX11_weightOf_48 : decode cX11_weightOf 48 = .ok (.iaload, 1) := by decide +kernel
theorem dX11_weightOf_49 : decode cX11_weightOf 49 = .ok (.goto 15, 3) := by decide +kernel
theorem dX11_weightOf_52 : decode cX11_weightOf 52 = .ok (.bipush 10, 2) := by decide +kernel
theorem dX11_weightOf_54 : decode cX11_weightOf 54 = .ok (.aload_n 0, 1) := by decide +kernel
theorem dX11_weightOf_55 : decode cX11_weightOf 55 = .ok (.getfield 37, 3) := by decide +kernel
theorem dX11_weightOf_58 : decode cX11_weightOf 58 = .ok (.getfield 153, 3) := by decide +kernel
theorem dX11_weightOf_61 : decode cX11_weightOf 61 = .ok (.iload_n 3, 1) := by decide +kernel
theorem dX11_weightOf_62 : decode cX11_weightOf 62 = .ok (.iaload, 1) := by decide +kernel
theorem dX11_weightOf_63 : decode cX11_weightOf 63 = .ok (.isub, 1) := by decide +kernel
theorem dX11_weightOf_64 : decode cX11_weightOf 64 = .ok (.imul, 1) := by decide +kernel
theorem dX11_weightOf_65 : decode cX11_weightOf 65 = .ok (.istore_n 2, 1) := by decide +kernel
theorem dX11_weightOf_66 : decode cX11_weightOf 66 = .ok (.iinc 3 1, 3) := by decide +kernel
theorem dX11_weightOf_69 : decode cX11_weightOf 69 = .ok (.goto (-65), 3) := by decide +kernel
theorem dX11_weightOf_72 : decode cX11_weightOf 72 = .ok (.iload_n 2, 1) := by decide +kernel
theorem dX11_weightOf_73 : decode cX11_weightOf 73 = .ok (.ireturn, 1) := by decide +kernel
theorem dX11_comesOverWithDry_0 : decode cX11_comesOverWithDry 0 = .ok (.aload_n 0, 1) := by decide +kernel
theorem dX11_comesOverWithDry_1 : decode cX11_comesOverWithDry 1 = .ok (.getfield 81, 3) := by decide +kernel
theorem dX11_comesOverWithDry_4 : decode cX11_comesOverWithDry 4 = .ok (.aload_n 0, 1) := by decide +kernel
theorem dX11_comesOverWithDry_5 : decode cX11_comesOverWithDry 5 = .ok (.getfield 37, 3) := by decide +kernel
theorem dX11_comesOverWithDry_8 : decode cX11_comesOverWithDry 8 = .ok (.getfield 123, 3) := by decide +kernel
theorem dX11_comesOverWithDry_11 : decode cX11_comesOverWithDry 11 = .ok (.invokevirtual 195, 3) := by decide +kernel
theorem dX11_comesOverWithDry_14 : decode cX11_comesOverWithDry 14 = .ok (.iconst 0, 1) := by decide +kernel
theorem dX11_comesOverWithDry_15 : decode cX11_comesOverWithDry 15 = .ok (.istore_n 3, 1) := by decide +kernel
theorem dX11_comesOverWithDry_16 : decode cX11_comesOverWithDry 16 = .ok (.iload_n 3, 1) := by decide +kernel
theorem dX11_comesOverWithDry_17 : decode cX11_comesOverWithDry 17 = .ok (.aload_n 0, 1) := by decide +kernel
theorem dX11_comesOverWithDry_18 : decode cX11_comesOverWithDry 18 = .ok (.getfield 37, 3) := by decide +kernel
theorem dX11_comesOverWithDry_21 : decode cX11_comesOverWithDry 21 = .ok (.getfield 120, 3) := by decide +kernel
theorem dX11_comesOverWithDry_24 : decode cX11_comesOverWithDry 24 = .ok (.getfield 134, 3) := by decide +kernel
theorem dX11_comesOverWithDry_27 : decode cX11_comesOverWithDry 27 = .ok (.if_icmp .ge 26, 3) := by decide +kernel
theorem dX11_comesOverWithDry_30 : decode cX11_comesOverWithDry 30 = .ok (.iload_n 1, 1) := by decide +kernel
theorem dX11_comesOverWithDry_31 : decode cX11_comesOverWithDry 31 = .ok (.iload_n 3, 1) := by decide +kernel
theorem dX11_comesOverWithDry_32 : decode cX11_comesOverWithDry 32 = .ok (.ishr, 1) := by decide +kernel
theorem dX11_comesOverWithDry_33 : decode cX11_comesOverWithDry 33 = .ok (.iconst 1, 1) := by decide +kernel
theorem dX11_comesOverWithDry_34 : decode cX11_comesOverWithDry 34 = .ok (.iand, 1) := by decide +kernel
theorem dX11_comesOverWithDry_35 : decode cX11_comesOverWithDry 35 = .ok (.iconst 1, 1) := by decide +kernel
theorem dX11_comesOverWithDry_36 : decode cX11_comesOverWithDry 36 = .ok (.if_icmp .ne 11, 3) := by decide +kernel
theorem dX11_comesOverWithDry_39 : decode cX11_comesOverWithDry 39 = .ok (.aload_n 0, 1) := by decide +kernel
theorem dX11_comesOverWithDry_40 : decode cX11_comesOverWithDry 40 = .ok (.getfield 81, 3) := by decide +kernel
theorem dX11_comesOverWithDry_43 : decode cX11_comesOverWithDry 43 = .ok (.iload_n 3, 1) := by decide +kernel
theorem dX11_comesOverWithDry_44 : decode cX11_comesOverWithDry 44 = .ok (.invokevirtual 362, 3) := by decide +kernel
theorem dX11_comesOverWithDry_47 : decode cX11_comesOverWithDry 47 = .ok (.iinc 3 1, 3) := by decide +kernel
theorem dX11_comesOverWithDry_50 : decode cX11_comesOverWithDry 50 = .ok (.goto (-34), 3) := by decide +kernel
theorem dX11_comesOverWithDry_53 : decode cX11_comesOverWithDry 53 = .ok (.aload_n 0, 1) := by decide +kernel
theorem dX11_comesOverWithDry_54 : decode cX11_comesOverWithDry 54 = .ok (.aload_n 0, 1) := by decide +kernel
theorem dX11_comesOverWithDry_55 : decode cX11_comesOverWithDry 55 = .ok (.getfield 37, 3) := by decide +kernel
theorem dX11_comesOverWithDry_58 : decode cX11_comesOverWithDry 58 = .ok (.getfield 120, 3) := by decide +kernel
theorem dX11_comesOverWithDry_61 : decode cX11_comesOverWithDry 61 = .ok (.aload_n 0, 1) := by decide +kernel
theorem dX11_comesOverWithDry_62 : decode cX11_comesOverWithDry 62 = .ok (.getfield 81, 3) := by decide +kernel
theorem dX11_comesOverWithDry_65 : decode cX11_comesOverWithDry 65 = .ok (.aload_n 2, 1) := by decide +kernel
theorem dX11_comesOverWithDry_66 : decode cX11_comesOverWithDry 66 = .ok (.invokevirtual 198, 3) := by decide +kernel
theorem dX11_comesOverWithDry_69 : decode cX11_comesOverWithDry 69 = .ok (.aload_n 0, 1) := by decide +kernel
theorem dX11_comesOverWithDry_70 : decode cX11_comesOverWithDry 70 = .ok (.getfield 60, 3) := by decide +kernel
theorem dX11_comesOverWithDry_73 : decode cX11_comesOverWithDry 73 = .ok (.getfield 208, 3) := by decide +kernel
theorem dX11_comesOverWithDry_76 : decode cX11_comesOverWithDry 76 = .ok (.bipush (-5), 2) := by decide +kernel
theorem dX11_comesOverWithDry_78 : decode cX11_comesOverWithDry 78 = .ok (.if_icmp .eq 7, 3) := by decide +kernel
theorem dX11_comesOverWithDry_81 : decode cX11_comesOverWithDry 81 = .ok (.iconst 1, 1) := by decide +kernel
theorem dX11_comesOverWithDry_82 : decode cX11_comesOverWithDry 82 = .ok (.goto 4, 3) := by decide +kernel
theorem dX11_comesOverWithDry_85 : decode cX11_comesOverWithDry 85 = .ok (.iconst 0, 1) := by decide +kernel
theorem dX11_comesOverWithDry_86 : decode cX11_comesOverWithDry 86 = .ok (.ireturn, 1) := by decide +kernel
theorem dX11_commonDivisor_0 : decode cX11_commonDivisor 0 = .ok (.iload_n 0, 1) := by decide +kernel
theorem dX11_commonDivisor_1 : decode cX11_commonDivisor 1 = .ok (.istore_n 2, 1) := by decide +kernel
theorem dX11_commonDivisor_2 : decode cX11_commonDivisor 2 = .ok (.iload_n 1, 1) := by decide +kernel
theorem dX11_commonDivisor_3 : decode cX11_commonDivisor 3 = .ok (.istore_n 3, 1) := by decide +kernel
theorem dX11_commonDivisor_4 : decode cX11_commonDivisor 4 = .ok (.iconst 0, 1) := by decide +kernel
theorem dX11_commonDivisor_5 : decode cX11_commonDivisor 5 = .ok (.istore 4, 2) := by decide +kernel
theorem dX11_commonDivisor_7 : decode cX11_commonDivisor 7 = .ok (.iload 4, 2) := by decide +kernel
theorem dX11_commonDivisor_9 : decode cX11_commonDivisor 9 = .ok (.bipush 100, 2) := by decide +kernel
theorem dX11_commonDivisor_11 : decode cX11_commonDivisor 11 = .ok (.if_icmp .ge 23, 3) := by decide +kernel
theorem dX11_commonDivisor_14 : decode cX11_commonDivisor 14 = .ok (.iload_n 3, 1) := by decide +kernel
theorem dX11_commonDivisor_15 : decode cX11_commonDivisor 15 = .ok (.ifCond .eq 19, 3) := by decide +kernel
theorem dX11_commonDivisor_18 : decode cX11_commonDivisor 18 = .ok (.iload_n 2, 1) := by decide +kernel
theorem dX11_commonDivisor_19 : decode cX11_commonDivisor 19 = .ok (.iload_n 3, 1) := by decide +kernel
theorem dX11_commonDivisor_20 : decode cX11_commonDivisor 20 = .ok (.irem, 1) := by decide +kernel
theorem dX11_commonDivisor_21 : decode cX11_commonDivisor 21 = .ok (.istore 5, 2) := by decide +kernel
theorem dX11_commonDivisor_23 : decode cX11_commonDivisor 23 = .ok (.iload_n 3, 1) := by decide +kernel
theorem dX11_commonDivisor_24 : decode cX11_commonDivisor 24 = .ok (.istore_n 2, 1) := by decide +kernel
theorem dX11_commonDivisor_25 : decode cX11_commonDivisor 25 = .ok (.iload 5, 2) := by decide +kernel
theorem dX11_commonDivisor_27 : decode cX11_commonDivisor 27 = .ok (.istore_n 3, 1) := by decide +kernel
theorem dX11_commonDivisor_28 : decode cX11_commonDivisor 28 = .ok (.iinc 4 1, 3) := by decide +kernel
theorem dX11_commonDivisor_31 : decode cX11_commonDivisor 31 = .ok (.goto (-24), 3) := by decide +kernel
theorem dX11_commonDivisor_34 : decode cX11_commonDivisor 34 = .ok (.iload_n 2, 1) := by decide +kernel
theorem dX11_commonDivisor_35 : decode cX11_commonDivisor 35 = .ok (.ireturn, 1) := by decide +kernel
theorem dX11_copyStands_0 : decode cX11_copyStands 0 = .ok (.iconst 0, 1) := by decide +kernel
theorem dX11_copyStands_1 : decode cX11_copyStands 1 = .ok (.istore 4, 2) := by decide +kernel
theorem dX11_copyStands_3 : decode cX11_copyStands 3 = .ok (.iload 4, 2) := by decide +kernel
theorem dX11_copyStands_5 : decode cX11_copyStands 5 = .ok (.iconst 5, 1) := by decide +kernel
theorem dX11_copyStands_6 : decode cX11_copyStands 6 = .ok (.if_icmp .ge 17, 3) := by decide +kernel
theorem dX11_copyStands_9 : decode cX11_copyStands 9 = .ok (.aload_n 0, 1) := by decide +kernel
theorem dX11_copyStands_10 : decode cX11_copyStands 10 = .ok (.getfield 96, 3) := by decide +kernel
theorem dX11_copyStands_13 : decode cX11_copyStands 13 = .ok (.iload 4, 2) := by decide +kernel
theorem dX11_copyStands_15 : decode cX11_copyStands 15 = .ok (.iconst 0, 1) := by decide +kernel
theorem dX11_copyStands_16 : decode cX11_copyStands 16 = .ok (.iastore, 1) := by decide +kernel
theorem dX11_copyStands_17 : decode cX11_copyStands 17 = .ok (.iinc 4 1, 3) := by decide +kernel
theorem dX11_copyStands_20 : decode cX11_copyStands 20 = .ok (.goto (-17), 3) := by decide +kernel
theorem dX11_copyStands_23 : decode cX11_copyStands 23 = .ok (.aload_n 1, 1) := by decide +kernel
theorem dX11_copyStands_24 : decode cX11_copyStands 24 = .ok (.iload_n 2, 1) := by decide +kernel
theorem dX11_copyStands_25 : decode cX11_copyStands 25 = .ok (.invokevirtual 293, 3) := by decide +kernel
theorem dX11_copyStands_28 : decode cX11_copyStands 28 = .ok (.ifCond .ne 5, 3) := by decide +kernel
theorem dX11_copyStands_31 : decode cX11_copyStands 31 = .ok (.iconst 0, 1) := by decide +kernel
theorem dX11_copyStands_32 : decode cX11_copyStands 32 = .ok (.ireturn, 1) := by decide +kernel
theorem dX11_copyStands_33 : decode cX11_copyStands 33 = .ok (.iconst 0, 1) := by decide +kernel
theorem dX11_copyStands_34 : decode cX11_copyStands 34 = .ok (.istore 4, 2) := by decide +kernel
theorem dX11_copyStands_36 : decode cX11_copyStands 36 = .ok (.iconst 0, 1) := by decide +kernel
theorem dX11_copyStands_37 : decode cX11_copyStands 37 = .ok (.istore 5, 2) := by decide +kernel
theorem dX11_copyStands_39 : decode cX11_copyStands 39 = .ok (.iload 5, 2) := by decide +kernel
theorem dX11_copyStands_41 : decode cX11_copyStands 41 = .ok (.iload_n 3, 1) := by decide +kernel
theorem dX11_copyStands_42 : decode cX11_copyStands 42 = .ok (.if_icmp .ge 77, 3) := by decide +kernel
theorem dX11_copyStands_45 : decode cX11_copyStands 45 = .ok (.iload 4, 2) := by decide +kernel
theorem dX11_copyStands_47 : decode cX11_copyStands 47 = .ok (.iload 5, 2) := by decide +kernel
theorem dX11_copyStands_49 : decode cX11_copyStands 49 = .ok (.if_icmp .ne 70, 3) := by decide +kernel
theorem dX11_copyStands_52 : decode cX11_copyStands 52 = .ok (.aload_n 1, 1) := by decide +kernel
theorem dX11_copyStands_53 : decode cX11_copyStands 53 = .ok (.iload_n 2, 1) := by decide +kernel
theorem dX11_copyStands_54 : decode cX11_copyStands 54 = .ok (.iload 5, 2) := by decide +kernel
theorem dX11_copyStands_56 : decode cX11_copyStands 56 = .ok (.iadd, 1) := by decide +kernel
theorem dX11_copyStands_57 : decode cX11_copyStands 57 = .ok (.invokevirtual 293, 3) := by decide +kernel
theorem dX11_copyStands_60 : decode cX11_copyStands 60 = .ok (.ifCond .eq 53, 3) := by decide +kernel
theorem dX11_copyStands_63 : decode cX11_copyStands 63 = .ok (.aload_n 1, 1) := by decide +kernel
theorem dX11_copyStands_64 : decode cX11_copyStands 64 = .ok (.getfield 319, 3) := by decide +kernel
theorem dX11_copyStands_67 : decode cX11_copyStands 67 = .ok (.iload_n 2, 1) := by decide +kernel
theorem dX11_copyStands_68 : decode cX11_copyStands 68 = .ok (.iload 5, 2) := by decide +kernel
theorem dX11_copyStands_70 : decode cX11_copyStands 70 = .ok (.iadd, 1) := by decide +kernel
theorem dX11_copyStands_71 : decode cX11_copyStands 71 = .ok (.laload, 1) := by decide +kernel
theorem dX11_copyStands_72 : decode cX11_copyStands 72 = .ok (.lconst 0, 1) := by decide +kernel
theorem dX11_copyStands_73 : decode cX11_copyStands 73 = .ok (.lcmp, 1) := by decide +kernel
theorem dX11_copyStands_74 : decode cX11_copyStands 74 = .ok (.ifCond .lt 39, 3) := by decide +kernel
theorem dX11_copyStands_77 : decode cX11_copyStands 77 = .ok (.aload_n 1, 1) := by decide +kernel
theorem dX11_copyStands_78 : decode cX11_copyStands 78 = .ok (.getfield 319, 3) := by decide +kernel
theorem dX11_copyStands_81 : decode cX11_copyStands 81 = .ok (.iload_n 2, 1) := by decide +kernel
theorem dX11_copyStands_82 : decode cX11_copyStands 82 = .ok (.iload 5, 2) := by decide +kernel
theorem dX11_copyStands_84 : decode cX11_copyStands 84 = .ok (.iadd, 1) := by decide +kernel
theorem dX11_copyStands_85 : decode cX11_copyStands 85 = .ok (.laload, 1) := by decide +kernel
theorem dX11_copyStands_86 : decode cX11_copyStands 86 = .ok (.ldc2_w 365, 3) := by decide +kernel
theorem dX11_copyStands_89 : decode cX11_copyStands 89 = .ok (.lcmp, 1) := by decide +kernel
theorem dX11_copyStands_90 : decode cX11_copyStands 90 = .ok (.ifCond .gt 23, 3) := by decide +kernel
theorem dX11_copyStands_93 : decode cX11_copyStands 93 = .ok (.aload_n 0, 1) := by decide +kernel
theorem dX11_copyStands_94 : decode cX11_copyStands 94 = .ok (.getfield 96, 3) := by decide +kernel
theorem dX11_copyStands_97 : decode cX11_copyStands 97 = .ok (.iload 5, 2) := by decide +kernel
theorem dX11_copyStands_99 : decode cX11_copyStands 99 = .ok (.aload_n 1, 1) := by decide +kernel
theorem dX11_copyStands_100 : decode cX11_copyStands 100 = .ok (.getfield 319, 3) := by decide +kernel
theorem dX11_copyStands_103 : decode cX11_copyStands 103 = .ok (.iload_n 2, 1) := by decide +kernel
theorem dX11_copyStands_104 : decode cX11_copyStands 104 = .ok (.iload 5, 2) := by decide +kernel
theorem dX11_copyStands_106 : decode cX11_copyStands 106 = .ok (.iadd, 1) := by decide +kernel
theorem dX11_copyStands_107 : decode cX11_copyStands 107 = .ok (.laload, 1) := by decide +kernel
theorem dX11_copyStands_108 : decode cX11_copyStands 108 = .ok (.l2i, 1) := by decide +kernel
theorem dX11_copyStands_109 : decode cX11_copyStands 109 = .ok (.iastore, 1) := by decide +kernel
theorem dX11_copyStands_110 : decode cX11_copyStands 110 = .ok (.iinc 4 1, 3) := by decide +kernel
theorem dX11_copyStands_113 : decode cX11_copyStands 113 = .ok (.iinc 5 1, 3) := by decide +kernel
theorem dX11_copyStands_116 : decode cX11_copyStands 116 = .ok (.goto (-77), 3) := by decide +kernel
theorem dX11_copyStands_119 : decode cX11_copyStands 119 = .ok (.iload 4, 2) := by decide +kernel
theorem dX11_copyStands_121 : decode cX11_copyStands 121 = .ok (.ireturn, 1) := by decide +kernel
theorem dX12_init_0 : decode cX12_init 0 = .ok (.aload_n 0, 1) := by decide +kernel
theorem dX12_init_1 : decode cX12_init 1 = .ok (.invokespecial 1, 3) := by decide +kernel
theorem dX12_init_4 : decode cX12_init 4 = .ok (.aload_n 0, 1) := by decide +kernel
theorem dX12_init_5 : decode cX12_init 5 = .ok (.iconst 0, 1) := by decide +kernel
theorem dX12_init_6 : decode cX12_init 6 = .ok (.putfield 7, 3) := by decide +kernel
theorem dX12_init_9 : decode cX12_init 9 = .ok (.aload_n 0, 1) := by decide +kernel
theorem dX12_init_10 : decode cX12_init 10 = .ok (.iconst (-1), 1) := by decide +kernel
theorem dX12_init_11 : decode cX12_init 11 = .ok (.putfield 13, 3) := by decide +kernel
theorem dX12_init_14 : decode cX12_init 14 = .ok (.aload_n 0, 1) := by decide +kernel
theorem dX12_init_15 : decode cX12_init 15 = .ok (.iconst 0, 1) := by decide +kernel
theorem dX12_init_16 : decode cX12_init 16 = .ok (.putfield 16, 3) := by decide +kernel
theorem dX12_init_19 : decode cX12_init 19 = .ok (.aload_n 0, 1) := by decide +kernel
theorem dX12_init_20 : decode cX12_init 20 = .ok (.iconst 0, 1) := by decide +kernel
theorem dX12_init_21 : decode cX12_init 21 = .ok (.putfield 19, 3) := by decide +kernel
theorem dX12_init_24 : decode cX12_init 24 = .ok (.aload_n 0, 1) := by decide +kernel
theorem dX12_init_25 : decode cX12_init 25 = .ok (.iconst 0, 1) := by decide +kernel
theorem dX12_init_26 : decode cX12_init 26 = .ok (.putfield 22, 3) := by decide +kernel
theorem dX12_init_29 : decode cX12_init 29 = .ok (.aload_n 0, 1) := by decide +kernel
theorem dX12_init_30 : decode cX12_init 30 = .ok (.bipush 100, 2) := by decide +kernel
theorem dX12_init_32 : decode cX12_init 32 = .ok (.newarray .int, 2) := by decide +kernel
theorem dX12_init_34 : decode cX12_init 34 = .ok (.putfield 25, 3) := by decide +kernel
theorem dX12_init_37 : decode cX12_init 37 = .ok (.aload_n 0, 1) := by decide +kernel
theorem dX12_init_38 : decode cX12_init 38 = .ok (.iconst 5, 1) := by decide +kernel
theorem dX12_init_39 : decode cX12_init 39 = .ok (.newarray .int, 2) := by decide +kernel
theorem dX12_init_41 : decode cX12_init 41 = .ok (.putfield 29, 3) := by decide +kernel
theorem dX12_init_44 : decode cX12_init 44 = .ok (.aload_n 0, 1) := by decide +kernel
theorem dX12_init_45 : decode cX12_init 45 = .ok (.bipush 60, 2) := by decide +kernel
theorem dX12_init_47 : decode cX12_init 47 = .ok (.newarray .int, 2) := by decide +kernel
theorem dX12_init_49 : decode cX12_init 49 = .ok (.putfield 32, 3) := by decide +kernel
theorem dX12_init_52 : decode cX12_init 52 = .ok (.aload_n 0, 1) := by decide +kernel
theorem dX12_init_53 : decode cX12_init 53 = .ok (.bipush 60, 2) := by decide +kernel
theorem dX12_init_55 : decode cX12_init 55 = .ok (.newarray .int, 2) := by decide +kernel
theorem dX12_init_57 : decode cX12_init 57 = .ok (.putfield 35, 3) := by decide +kernel
theorem dX12_init_60 : decode cX12_init 60 = .ok (.aload_n 0, 1) := by decide +kernel
theorem dX12_init_61 : decode cX12_init 61 = .ok (.bipush 60, 2) := by decide +kernel
theorem dX12_init_63 : decode cX12_init 63 = .ok (.newarray .int, 2) := by decide +kernel
theorem dX12_init_65 : decode cX12_init 65 = .ok (.putfield 38, 3) := by decide +kernel
theorem dX12_init_68 : decode cX12_init 68 = .ok (.aload_n 0, 1) := by decide +kernel
theorem dX12_init_69 : decode cX12_init 69 = .ok (.bipush 60, 2) := by decide +kernel
theorem dX12_init_71 : decode cX12_init 71 = .ok (.newarray .int, 2) := by decide +kernel
theorem dX12_init_73 : decode cX12_init 73 = .ok (.putfield 41, 3) := by decide +kernel
theorem dX12_init_76 : decode cX12_init 76 = .ok (.aload_n 0, 1) := by decide +kernel
theorem dX12_init_77 : decode cX12_init 77 = .ok (.bipush 60, 2) := by decide +kernel
theorem dX12_init_79 : decode cX12_init 79 = .ok (.newarray .int, 2) := by decide +kernel
theorem dX12_init_81 : decode cX12_init 81 = .ok (.putfield 44, 3) := by decide +kernel
theorem dX12_init_84 : decode cX12_init 84 = .ok (.aload_n 0, 1) := by decide +kernel
theorem dX12_init_85 : decode cX12_init 85 = .ok (.sipush 500, 3) := by decide +kernel
theorem dX12_init_88 : decode cX12_init 88 = .ok (.newarray .int, 2) := by decide +kernel
theorem dX12_init_90 : decode cX12_init 90 = .ok (.putfield 47, 3) := by decide +kernel
theorem dX12_init_93 : decode cX12_init 93 = .ok (.aload_n 0, 1) := by decide +kernel
theorem dX12_init_94 : decode cX12_init 94 = .ok (.bipush 101, 2) := by decide +kernel
theorem dX12_init_96 : decode cX12_init 96 = .ok (.newarray .int, 2) := by decide +kernel
theorem dX12_init_98 : decode cX12_init 98 = .ok (.putfield 50, 3) := by decide +kernel
theorem dX12_init_101 : decode cX12_init 101 = .ok (.aload_n 0, 1) := by decide +kernel
theorem dX12_init_102 : decode cX12_init 102 = .ok (.iconst 0, 1) := by decide +kernel
theorem dX12_init_103 : decode cX12_init 103 = .ok (.putfield 53, 3) := by decide +kernel
theorem dX12_init_106 : decode cX12_init 106 = .ok (.aload_n 0, 1) := by decide +kernel
theorem dX12_init_107 : decode cX12_init 107 = .ok (.iconst 0, 1) := by decide +kernel
theorem dX12_init_108 : decode cX12_init 108 = .ok (.putfield 56, 3) := by decide +kernel
theorem dX12_init_111 : decode cX12_init 111 = .ok (.aload_n 0, 1) := by decide +kernel
theorem dX12_init_112 : decode cX12_init 112 = .ok (.iconst 0, 1) := by decide +kernel
theorem dX12_init_113 : decode cX12_init 113 = .ok (.putfield 59, 3) := by decide +kernel
theorem dX12_init_116 : decode cX12_init 116 = .ok (.aload_n 0, 1) := by decide +kernel
theorem dX12_init_117 : decode cX12_init 117 = .ok (.bipush 100, 2) := by decide +kernel
theorem dX12_init_119 : decode cX12_init 119 = .ok (.newarray .boolean, 2) := by decide +kernel
theorem dX12_init_121 : decode cX12_init 121 = .ok (.putfield 62, 3) := by decide +kernel
theorem dX12_init_124 : decode cX12_init 124 = .ok (.aload_n 0, 1) := by decide +kernel
theorem dX12_init_125 : decode cX12_init 125 = .ok (.iconst 5, 1) := by decide +kernel
theorem dX12_init_126 : decode cX12_init 126 = .ok (.newarray .int, 2) := by decide +kernel
theorem dX12_init_128 : decode cX12_init 128 = .ok (.putfield 66, 3) := by decide +kernel
theorem dX12_init_131 : decode cX12_init 131 = .ok (.aload_n 0, 1) := by decide +kernel
theorem dX12_init_132 : decode cX12_init 132 = .ok (.iconst 5, 1) := by decide +kernel
theorem dX12_init_133 : decode cX12_init 133 = .ok (.newarray .int, 2) := by decide +kernel
theorem dX12_init_135 : decode cX12_init 135 = .ok (.putfield 69, 3) := by decide +kernel
theorem dX12_init_138 : decode cX12_init 138 = .ok (.aload_n 0, 1) := by decide +kernel
theorem dX12_init_139 : decode cX12_init 139 = .ok (.iconst 5, 1) := by decide +kernel
theorem dX12_init_140 : decode cX12_init 140 = .ok (.newarray .int, 2) := by decide +kernel
theorem dX12_init_142 : decode cX12_init 142 = .ok (.putfield 72, 3) := by decide +kernel
theorem dX12_init_145 : decode cX12_init 145 = .ok (.aload_n 0, 1) := by decide +kernel
theorem dX12_init_146 : decode cX12_init 146 = .ok (.iconst 0, 1) := by decide +kernel
theorem dX12_init_147 : decode cX12_init 147 = .ok (.putfield 75, 3) := by decide +kernel
theorem dX12_init_150 : decode cX12_init 150 = .ok (.aload_n 0, 1) := by decide +kernel
theorem dX12_init_151 : decode cX12_init 151 = .ok (.bipush 6, 2) := by decide +kernel
theorem dX12_init_153 : decode cX12_init 153 = .ok (.newarray .int, 2) := by decide +kernel
theorem dX12_init_155 : decode cX12_init 155 = .ok (.putfield 78, 3) := by decide +kernel
theorem dX12_init_158 : decode cX12_init 158 = .ok (.aload_n 0, 1) := by decide +kernel
theorem dX12_init_159 : decode cX12_init 159 = .ok (.bipush 6, 2) := by decide +kernel
theorem dX12_init_161 : decode cX12_init 161 = .ok (.newarray .int, 2) := by decide +kernel
theorem dX12_init_163 : decode cX12_init 163 = .ok (.putfield 81, 3) := by decide +kernel
theorem dX12_init_166 : decode cX12_init 166 = .ok (.aload_n 0, 1) := by decide +kernel
theorem dX12_init_167 : decode cX12_init 167 = .ok (.bipush 7, 2) := by decide +kernel
theorem dX12_init_169 : decode cX12_init 169 = .ok (.newarray .int, 2) := by decide +kernel
theorem dX12_init_171 : decode cX12_init 171 = .ok (.putfield 84, 3) := by decide +kernel
theorem dX12_init_174 : decode cX12_init 174 = .ok (.aload_n 0, 1) := by decide +kernel
theorem dX12_init_175 : decode cX12_init 175 = .ok (.bipush 6, 2) := by decide +kernel
theorem dX12_init_177 : decode cX12_init 177 = .ok (.newarray .int, 2) := by decide +kernel
theorem dX12_init_179 : decode cX12_init 179 = .ok (.putfield 87, 3) := by decide +kernel
theorem dX12_init_182 : decode cX12_init 182 = .ok (.aload_n 0, 1) := by decide +kernel
theorem dX12_init_183 : decode cX12_init 183 = .ok (.bipush 6, 2) := by decide +kernel
theorem dX12_init_185 : decode cX12_init 185 = .ok (.newarray .int, 2) := by decide +kernel
theorem dX12_init_187 : decode cX12_init 187 = .ok (.putfield 90, 3) := by decide +kernel
theorem dX12_init_190 : decode cX12_init 190 = .ok (.aload_n 0, 1) := by decide +kernel
theorem dX12_init_191 : decode cX12_init 191 = .ok (.iconst 0, 1) := by decide +kernel
theorem dX12_init_192 : decode cX12_init 192 = .ok (.putfield 93, 3) := by decide +kernel
theorem dX12_init_195 : decode cX12_init 195 = .ok (.aload_n 0, 1) := by decide +kernel
theorem dX12_init_196 : decode cX12_init 196 = .ok (.iconst 0, 1) := by decide +kernel
theorem dX12_init_197 : decode cX12_init 197 = .ok (.putfield 96, 3) := by decide +kernel
theorem dX12_init_200 : decode cX12_init 200 = .ok (.aload_n 0, 1) := by decide +kernel
theorem dX12_init_201 : decode cX12_init 201 = .ok (.iconst 0, 1) := by decide +kernel
theorem dX12_init_202 : decode cX12_init 202 = .ok (.putfield 99, 3) := by decide +kernel
theorem dX12_init_205 : decode cX12_init 205 = .ok (.aload_n 0, 1) := by decide +kernel
theorem dX12_init_206 : decode cX12_init 206 = .ok (.bipush 11, 2) := by decide +kernel
theorem dX12_init_208 : decode cX12_init 208 = .ok (.newarray .int, 2) := by decide +kernel
theorem dX12_init_210 : decode cX12_init 210 = .ok (.putfield 102, 3) := by decide +kernel
theorem dX12_init_213 : decode cX12_init 213 = .ok (.aload_n 0, 1) := by decide +kernel
theorem dX12_init_214 : decode cX12_init 214 = .ok (.bipush 11, 2) := by decide +kernel
theorem dX12_init_216 : decode cX12_init 216 = .ok (.newarray .int, 2) := by decide +kernel
theorem dX12_init_218 : decode cX12_init 218 = .ok (.putfield 105, 3) := by decide +kernel
theorem dX12_init_221 : decode cX12_init 221 = .ok (.aload_n 0, 1) := by decide +kernel
theorem dX12_init_222 : decode cX12_init 222 = .ok (.bipush 11, 2) := by decide +kernel
theorem dX12_init_224 : decode cX12_init 224 = .ok (.newarray .int, 2) := by decide +kernel
theorem dX12_init_226 : decode cX12_init 226 = .ok (.putfield 108, 3) := by decide +kernel
theorem dX12_init_229 : decode cX12_init 229 = .ok (.aload_n 0, 1) := by decide +kernel
theorem dX12_init_230 : decode cX12_init 230 = .ok (.bipush 55, 2) := by decide +kernel
theorem dX12_init_232 : decode cX12_init 232 = .ok (.newarray .int, 2) := by decide +kernel
theorem dX12_init_234 : decode cX12_init 234 = .ok (.putfield 111, 3) := by decide +kernel
theorem dX12_init_237 : decode cX12_init 237 = .ok (.aload_n 0, 1) := by decide +kernel
theorem dX12_init_238 : decode cX12_init 238 = .ok (.bipush 7, 2) := by decide +kernel
theorem dX12_init_240 : decode cX12_init 240 = .ok (.newarray .int, 2) := by decide +kernel
theorem dX12_init_242 : decode cX12_init 242 = .ok (.putfield 114, 3) := by decide +kernel
theorem dX12_init_245 : decode cX12_init 245 = .ok (.aload_n 0, 1) := by decide +kernel
theorem dX12_init_246 : decode cX12_init 246 = .ok (.bipush 7, 2) := by decide +kernel
theorem dX12_init_248 : decode cX12_init 248 = .ok (.newarray .int, 2) := by decide +kernel
theorem dX12_init_250 : decode cX12_init 250 = .ok (.putfield 117, 3) := by decide +kernel
theorem dX12_init_253 : decode cX12_init 253 = .ok (.aload_n 0, 1) := by decide +kernel
theorem dX12_init_254 : decode cX12_init 254 = .ok (.bipush 7, 2) := by decide +kernel
theorem dX12_init_256 : decode cX12_init 256 = .ok (.newarray .int, 2) := by decide +kernel
theorem dX12_init_258 : decode cX12_init 258 = .ok (.putfield 120, 3) := by decide +kernel
theorem dX12_init_261 : decode cX12_init 261 = .ok (.aload_n 0, 1) := by decide +kernel
theorem dX12_init_262 : decode cX12_init 262 = .ok (.iconst 5, 1) := by decide +kernel
theorem dX12_init_263 : decode cX12_init 263 = .ok (.newarray .int, 2) := by decide +kernel
theorem dX12_init_265 : decode cX12_init 265 = .ok (.putfield 123, 3) := by decide +kernel
theorem dX12_init_268 : decode cX12_init 268 = .ok (.aload_n 0, 1) := by decide +kernel
theorem dX12_init_269 : decode cX12_init 269 = .ok (.sipush 168, 3) := by decide +kernel
theorem dX12_init_272 : decode cX12_init 272 = .ok (.newarray .int, 2) := by decide +kernel
theorem dX12_init_274 : decode cX12_init 274 = .ok (.putfield 126, 3) := by decide +kernel
theorem dX12_init_277 : decode cX12_init 277 = .ok (.aload_n 0, 1) := by decide +kernel
theorem dX12_init_278 : decode cX12_init 278 = .ok (.bipush 6, 2) := by decide +kernel
theorem dX12_init_280 : decode cX12_init 280 = .ok (.newarray .int, 2) := by decide +kernel
theorem dX12_init_282 : decode cX12_init 282 = .ok (.putfield 129, 3) := by decide +kernel
theorem dX12_init_285 : decode cX12_init 285 = .ok (.aload_n 0, 1) := by decide +kernel
theorem dX12_init_286 : decode cX12_init 286 = .ok (.bipush 6, 2) := by decide +kernel
theorem dX12_init_288 : decode cX12_init 288 = .ok (.newarray .int, 2) := by decide +kernel
theorem dX12_init_290 : decode cX12_init 290 = .ok (.putfield 132, 3) := by decide +kernel
theorem dX12_init_293 : decode cX12_init 293 = .ok (.aload_n 0, 1) := by decide +kernel
theorem dX12_init_294 : decode cX12_init 294 = .ok (.bipush 6, 2) := by decide +kernel
theorem dX12_init_296 : decode cX12_init 296 = .ok (.newarray .int, 2) := by decide +kernel
theorem dX12_init_298 : decode cX12_init 298 = .ok (.putfield 135, 3) := by decide +kernel
theorem dX12_init_301 : decode cX12_init 301 = .ok (.aload_n 0, 1) := by decide +kernel
theorem dX12_init_302 : decode cX12_init 302 = .ok (.bipush 6, 2) := by decide +kernel
theorem dX12_init_304 : decode cX12_init 304 = .ok (.newarray .int, 2) := by decide +kernel
theorem dX12_init_306 : decode cX12_init 306 = .ok (.putfield 138, 3) := by decide +kernel
theorem dX12_init_309 : decode cX12_init 309 = .ok (.aload_n 0, 1) := by decide +kernel
theorem dX12_init_310 : decode cX12_init 310 = .ok (.bipush 6, 2) := by decide +kernel
theorem dX12_init_312 : decode cX12_init 312 = .ok (.newarray .int, 2) := by decide +kernel
theorem dX12_init_314 : decode cX12_init 314 = .ok (.putfield 141, 3) := by decide +kernel
theorem dX12_init_317 : decode cX12_init 317 = .ok (.aload_n 0, 1) := by decide +kernel
theorem dX12_init_318 : decode cX12_init 318 = .ok (.bipush 6, 2) := by decide +kernel
theorem dX12_init_320 : decode cX12_init 320 = .ok (.newarray .int, 2) := by decide +kernel
theorem dX12_init_322 : decode cX12_init 322 = .ok (.putfield 144, 3) := by decide +kernel
theorem dX12_init_325 : decode cX12_init 325 = .ok (.aload_n 0, 1) := by decide +kernel
theorem dX12_init_326 : decode cX12_init 326 = .ok (.iconst 0, 1) := by decide +kernel
theorem dX12_init_327 : decode cX12_init 327 = .ok (.putfield 147, 3) := by decide +kernel
theorem dX12_init_330 : decode cX12_init 330 = .ok (.aload_n 0, 1) := by decide +kernel
theorem dX12_init_331 : decode cX12_init 331 = .ok (.iconst 0, 1) := by decide +kernel
theorem dX12_init_332 : decode cX12_init 332 = .ok (.putfield 150, 3) := by decide +kernel
theorem dX12_init_335 : decode cX12_init 335 = .ok (.aload_n 0, 1) := by decide +kernel
theorem dX12_init_336 : decode cX12_init 336 = .ok (.iconst 0, 1) := by decide +kernel
theorem dX12_init_337 : decode cX12_init 337 = .ok (.putfield 153, 3) := by decide +kernel
theorem dX12_init_340 : decode cX12_init 340 = .ok (.aload_n 0, 1) := by decide +kernel
theorem dX12_init_341 : decode cX12_init 341 = .ok (.iconst 0, 1) := by decide +kernel
theorem dX12_init_342 : decode cX12_init 342 = .ok (.putfield 156, 3) := by decide +kernel
theorem dX12_init_345 : decode cX12_init 345 = .ok (.aload_n 0, 1) := by decide +kernel
theorem dX12_init_346 : decode cX12_init 346 = .ok (.bipush (-5), 2) := by decide +kernel
theorem dX12_init_348 : decode cX12_init 348 = .ok (.putfield 159, 3) := by decide +kernel
theorem dX12_init_351 : decode cX12_init 351 = .ok (.aload_n 0, 1) := by decide +kernel
theorem dX12_init_352 : decode cX12_init 352 = .ok (.bipush (-5), 2) := by decide +kernel
theorem dX12_init_354 : decode cX12_init 354 = .ok (.putfield 162, 3) := by decide +kernel
theorem dX12_init_357 : decode cX12_init 357 = .ok (.aload_n 0, 1) := by decide +kernel
theorem dX12_init_358 : decode cX12_init 358 = .ok (.iconst 0, 1) := by decide +kernel
theorem dX12_init_359 : decode cX12_init 359 = .ok (.putfield 165, 3) := by decide +kernel
theorem dX12_init_362 : decode cX12_init 362 = .ok (.aload_n 0, 1) := by decide +kernel
theorem dX12_init_363 : decode cX12_init 363 = .ok (.iconst 3, 1) := by decide +kernel
theorem dX12_init_364 : decode cX12_init 364 = .ok (.newarray .int, 2) := by decide +kernel
theorem dX12_init_366 : decode cX12_init 366 = .ok (.putfield 168, 3) := by decide +kernel
theorem dX12_init_369 : decode cX12_init 369 = .ok (.aload_n 0, 1) := by decide +kernel
theorem dX12_init_370 : decode cX12_init 370 = .ok (.iconst 3, 1) := by decide +kernel
theorem dX12_init_371 : decode cX12_init 371 = .ok (.newarray .int, 2) := by decide +kernel
theorem dX12_init_373 : decode cX12_init 373 = .ok (.putfield 171, 3) := by decide +kernel
theorem dX12_init_376 : decode cX12_init 376 = .ok (.aload_n 0, 1) := by decide +kernel
theorem dX12_init_377 : decode cX12_init 377 = .ok (.iconst 3, 1) := by decide +kernel
theorem dX12_init_378 : decode cX12_init 378 = .ok (.newarray .int, 2) := by decide +kernel
theorem dX12_init_380 : decode cX12_init 380 = .ok (.putfield 174, 3) := by decide +kernel
theorem dX12_init_383 : decode cX12_init 383 = .ok (.aload_n 0, 1) := by decide +kernel
theorem dX12_init_384 : decode cX12_init 384 = .ok (.iconst 3, 1) := by decide +kernel
theorem dX12_init_385 : decode cX12_init 385 = .ok (.newarray .int, 2) := by decide +kernel
theorem dX12_init_387 : decode cX12_init 387 = .ok (.putfield 177, 3) := by decide +kernel
theorem dX12_init_390 : decode cX12_init 390 = .ok (.aload_n 0, 1) := by decide +kernel
theorem dX12_init_391 : decode cX12_init 391 = .ok (.iconst 0, 1) := by decide +kernel
theorem dX12_init_392 : decode cX12_init 392 = .ok (.putfield 180, 3) := by decide +kernel
theorem dX12_init_395 : decode cX12_init 395 = .ok (.aload_n 0, 1) := by decide +kernel
theorem dX12_init_396 : decode cX12_init 396 = .ok (.iconst 0, 1) := by decide +kernel
theorem dX12_init_397 : decode cX12_init 397 = .ok (.putfield 183, 3) := by decide +kernel
theorem dX12_init_400 : decode cX12_init 400 = .ok (.aload_n 0, 1) := by decide +kernel
theorem dX12_init_401 : decode cX12_init 401 = .ok (.iconst 0, 1) := by decide +kernel
theorem dX12_init_402 : decode cX12_init 402 = .ok (.putfield 186, 3) := by decide +kernel
theorem dX12_init_405 : decode cX12_init 405 = .ok (.aload_n 0, 1) := by decide +kernel
theorem dX12_init_406 : decode cX12_init 406 = .ok (.iconst (-1), 1) := by decide +kernel
theorem dX12_init_407 : decode cX12_init 407 = .ok (.putfield 190, 3) := by decide +kernel
theorem dX12_init_410 : decode cX12_init 410 = .ok (.aload_n 0, 1) := by decide +kernel
theorem dX12_init_411 : decode cX12_init 411 = .ok (.iconst 0, 1) := by decide +kernel
theorem dX12_init_412 : decode cX12_init 412 = .ok (.putfield 193, 3) := by decide +kernel
theorem dX12_init_415 : decode cX12_init 415 = .ok (.aload_n 0, 1) := by decide +kernel
theorem dX12_init_416 : decode cX12_init 416 = .ok (.iconst 0, 1) := by decide +kernel
theorem dX12_init_417 : decode cX12_init 417 = .ok (.putfield 196, 3) := by decide +kernel
theorem dX12_init_420 : decode cX12_init 420 = .ok (.aload_n 0, 1) := by decide +kernel
theorem dX12_init_421 : decode cX12_init 421 = .ok (.iconst 5, 1) := by decide +kernel
theorem dX12_init_422 : decode cX12_init 422 = .ok (.newarray .int, 2) := by decide +kernel
theorem dX12_init_424 : decode cX12_init 424 = .ok (.putfield 199, 3) := by decide +kernel
theorem dX12_init_427 : decode cX12_init 427 = .ok (.aload_n 0, 1) := by decide +kernel
theorem dX12_init_428 : decode cX12_init 428 = .ok (.iconst 5, 1) := by decide +kernel
theorem dX12_init_429 : decode cX12_init 429 = .ok (.newarray .int, 2) := by decide +kernel
theorem dX12_init_431 : decode cX12_init 431 = .ok (.putfield 202, 3) := by decide +kernel
theorem dX12_init_434 : decode cX12_init 434 = .ok (.aload_n 0, 1) := by decide +kernel
theorem dX12_init_435 : decode cX12_init 435 = .ok (.iconst 5, 1) := by decide +kernel
theorem dX12_init_436 : decode cX12_init 436 = .ok (.newarray .int, 2) := by decide +kernel
theorem dX12_init_438 : decode cX12_init 438 = .ok (.putfield 205, 3) := by decide +kernel
theorem dX12_init_441 : decode cX12_init 441 = .ok (.aload_n 0, 1) := by decide +kernel
theorem dX12_init_442 : decode cX12_init 442 = .ok (.iconst 3, 1) := by decide +kernel
theorem dX12_init_443 : decode cX12_init 443 = .ok (.newarray .int, 2) := by decide +kernel
theorem dX12_init_445 : decode cX12_init 445 = .ok (.putfield 208, 3) := by decide +kernel
theorem dX12_init_448 : decode cX12_init 448 = .ok (.aload_n 0, 1) := by decide +kernel
theorem dX12_init_449 : decode cX12_init 449 = .ok (.iconst 5, 1) := by decide +kernel
theorem dX12_init_450 : decode cX12_init 450 = .ok (.newarray .int, 2) := by decide +kernel
theorem dX12_init_452 : decode cX12_init 452 = .ok (.putfield 211, 3) := by decide +kernel
theorem dX12_init_455 : decode cX12_init 455 = .ok (.aload_n 0, 1) := by decide +kernel
theorem dX12_init_456 : decode cX12_init 456 = .ok (.iconst 0, 1) := by decide +kernel
theorem dX12_init_457 : decode cX12_init 457 = .ok (.putfield 214, 3) := by decide +kernel
theorem dX12_init_460 : decode cX12_init 460 = .ok (.aload_n 0, 1) := by decide +kernel
theorem dX12_init_461 : decode cX12_init 461 = .ok (.bipush 20, 2) := by decide +kernel
theorem dX12_init_463 : decode cX12_init 463 = .ok (.newarray .int, 2) := by decide +kernel
theorem dX12_init_465 : decode cX12_init 465 = .ok (.putfield 217, 3) := by decide +kernel
theorem dX12_init_468 : decode cX12_init 468 = .ok (.aload_n 0, 1) := by decide +kernel
theorem dX12_init_469 : decode cX12_init 469 = .ok (.bipush 6, 2) := by decide +kernel
theorem dX12_init_471 : decode cX12_init 471 = .ok (.newarray .int, 2) := by decide +kernel
theorem dX12_init_473 : decode cX12_init 473 = .ok (.dup, 1) := by decide +kernel
theorem dX12_init_474 : decode cX12_init 474 = .ok (.iconst 0, 1) := by decide +kernel
theorem dX12_init_475 : decode cX12_init 475 = .ok (.iconst (-1), 1) := by decide +kernel
theorem dX12_init_476 : decode cX12_init 476 = .ok (.iastore, 1) := by decide +kernel
theorem dX12_init_477 : decode cX12_init 477 = .ok (.dup, 1) := by decide +kernel
theorem dX12_init_478 : decode cX12_init 478 = .ok (.iconst 1, 1) := by decide +kernel
theorem dX12_init_479 : decode cX12_init 479 = .ok (.iconst (-1), 1) := by decide +kernel
theorem dX12_init_480 : decode cX12_init 480 = .ok (.iastore, 1) := by decide +kernel
theorem dX12_init_481 : decode cX12_init 481 = .ok (.dup, 1) := by decide +kernel
theorem dX12_init_482 : decode cX12_init 482 = .ok (.iconst 2, 1) := by decide +kernel
theorem dX12_init_483 : decode cX12_init 483 = .ok (.iconst (-1), 1) := by decide +kernel
theorem dX12_init_484 : decode cX12_init 484 = .ok (.iastore, 1) := by decide +kernel
theorem dX12_init_485 : decode cX12_init 485 = .ok (.dup, 1) := by decide +kernel
theorem dX12_init_486 : decode cX12_init 486 = .ok (.iconst 3, 1) := by decide +kernel
theorem dX12_init_487 : decode cX12_init 487 = .ok (.iconst (-1), 1) := by decide +kernel
theorem dX12_init_488 : decode cX12_init 488 = .ok (.iastore, 1) := by decide +kernel
theorem dX12_init_489 : decode cX12_init 489 = .ok (.dup, 1) := by decide +kernel
theorem dX12_init_490 : decode cX12_init 490 = .ok (.iconst 4, 1) := by decide +kernel
theorem dX12_init_491 : decode cX12_init 491 = .ok (.iconst (-1), 1) := by decide +kernel
