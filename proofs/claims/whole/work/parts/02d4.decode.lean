theorem dX12_size_72 : decode cX12_size 72 = .ok (.aload_n 0, 1) := by decide +kernel
theorem dX12_size_73 : decode cX12_size 73 = .ok (.getfield 102, 3) := by decide +kernel
theorem dX12_size_76 : decode cX12_size 76 = .ok (.iload_n 2, 1) := by decide +kernel
theorem dX12_size_77 : decode cX12_size 77 = .ok (.iaload, 1) := by decide +kernel
theorem dX12_size_78 : decode cX12_size 78 = .ok (.invokevirtual 354, 3) := by decide +kernel
theorem dX12_size_81 : decode cX12_size 81 = .ok (.aload_n 0, 1) := by decide +kernel
theorem dX12_size_82 : decode cX12_size 82 = .ok (.getfield 162, 3) := by decide +kernel
theorem dX12_size_85 : decode cX12_size 85 = .ok (.ifCond .ge 13, 3) := by decide +kernel
theorem dX12_size_88 : decode cX12_size 88 = .ok (.iload 6, 2) := by decide +kernel
theorem dX12_size_90 : decode cX12_size 90 = .ok (.ifCond .ne 8, 3) := by decide +kernel
theorem dX12_size_93 : decode cX12_size 93 = .ok (.iload 7, 2) := by decide +kernel
theorem dX12_size_95 : decode cX12_size 95 = .ok (.goto 5, 3) := by decide +kernel
theorem dX12_size_98 : decode cX12_size 98 = .ok (.iload 6, 2) := by decide +kernel
theorem dX12_size_100 : decode cX12_size 100 = .ok (.istore 6, 2) := by decide +kernel
theorem dX12_size_102 : decode cX12_size 102 = .ok (.aload_n 0, 1) := by decide +kernel
theorem dX12_size_103 : decode cX12_size 103 = .ok (.getfield 162, 3) := by decide +kernel
theorem dX12_size_106 : decode cX12_size 106 = .ok (.ifCond .ge 7, 3) := by decide +kernel
theorem dX12_size_109 : decode cX12_size 109 = .ok (.iconst (-1), 1) := by decide +kernel
theorem dX12_size_110 : decode cX12_size 110 = .ok (.goto 12, 3) := by decide +kernel
theorem dX12_size_113 : decode cX12_size 113 = .ok (.iload 7, 2) := by decide +kernel
theorem dX12_size_115 : decode cX12_size 115 = .ok (.aload_n 0, 1) := by decide +kernel
theorem dX12_size_116 : decode cX12_size 116 = .ok (.iconst 4, 1) := by decide +kernel
theorem dX12_size_117 : decode cX12_size 117 = .ok (.iconst 1, 1) := by decide +kernel
theorem dX12_size_118 : decode cX12_size 118 = .ok (.invokevirtual 316, 3) := by decide +kernel
theorem dX12_size_121 : decode cX12_size 121 = .ok (.imul, 1) := by decide +kernel
theorem dX12_size_122 : decode cX12_size 122 = .ok (.istore 8, 2) := by decide +kernel
theorem dX12_size_124 : decode cX12_size 124 = .ok (.iload 8, 2) := by decide +kernel
theorem dX12_size_126 : decode cX12_size 126 = .ok (.iload 5, 2) := by decide +kernel
theorem dX12_size_128 : decode cX12_size 128 = .ok (.if_icmp .gt 6, 3) := by decide +kernel
theorem dX12_size_131 : decode cX12_size 131 = .ok (.goto 11, 3) := by decide +kernel
theorem dX12_size_134 : decode cX12_size 134 = .ok (.iload 7, 2) := by decide +kernel
theorem dX12_size_136 : decode cX12_size 136 = .ok (.istore 4, 2) := by decide +kernel
theorem dX12_size_138 : decode cX12_size 138 = .ok (.iload 8, 2) := by decide +kernel
theorem dX12_size_140 : decode cX12_size 140 = .ok (.istore 5, 2) := by decide +kernel
theorem dX12_size_142 : decode cX12_size 142 = .ok (.iinc 7 1, 3) := by decide +kernel
theorem dX12_size_145 : decode cX12_size 145 = .ok (.goto (-89), 3) := by decide +kernel
theorem dX12_size_148 : decode cX12_size 148 = .ok (.iload_n 3, 1) := by decide +kernel
theorem dX12_size_149 : decode cX12_size 149 = .ok (.ifCond .ne 8, 3) := by decide +kernel
theorem dX12_size_152 : decode cX12_size 152 = .ok (.iload 4, 2) := by decide +kernel
theorem dX12_size_154 : decode cX12_size 154 = .ok (.goto 5, 3) := by decide +kernel
theorem dX12_size_157 : decode cX12_size 157 = .ok (.iload 6, 2) := by decide +kernel
theorem dX12_size_159 : decode cX12_size 159 = .ok (.ireturn, 1) := by decide +kernel
theorem dX12_several_0 : decode cX12_several 0 = .ok (.iload_n 1, 1) := by decide +kernel
theorem dX12_several_1 : decode cX12_several 1 = .ok (.iconst (-1), 1) := by decide +kernel
theorem dX12_several_2 : decode cX12_several 2 = .ok (.if_icmp .ne 10, 3) := by decide +kernel
theorem dX12_several_5 : decode cX12_several 5 = .ok (.aload_n 0, 1) := by decide +kernel
theorem dX12_several_6 : decode cX12_several 6 = .ok (.iconst 0, 1) := by decide +kernel
theorem dX12_several_7 : decode cX12_several 7 = .ok (.putfield 165, 3) := by decide +kernel
theorem dX12_several_10 : decode cX12_several 10 = .ok (.iconst 0, 1) := by decide +kernel
theorem dX12_several_11 : decode cX12_several 11 = .ok (.ireturn, 1) := by decide +kernel
theorem dX12_several_12 : decode cX12_several 12 = .ok (.aload_n 0, 1) := by decide +kernel
theorem dX12_several_13 : decode cX12_several 13 = .ok (.iload_n 1, 1) := by decide +kernel
theorem dX12_several_14 : decode cX12_several 14 = .ok (.invokevirtual 358, 3) := by decide +kernel
theorem dX12_several_17 : decode cX12_several 17 = .ok (.ifCond .ne 5, 3) := by decide +kernel
theorem dX12_several_20 : decode cX12_several 20 = .ok (.iconst (-1), 1) := by decide +kernel
theorem dX12_several_21 : decode cX12_several 21 = .ok (.ireturn, 1) := by decide +kernel
theorem dX12_several_22 : decode cX12_several 22 = .ok (.aload_n 0, 1) := by decide +kernel
theorem dX12_several_23 : decode cX12_several 23 = .ok (.getfield 165, 3) := by decide +kernel
theorem dX12_several_26 : decode cX12_several 26 = .ok (.iconst 3, 1) := by decide +kernel
theorem dX12_several_27 : decode cX12_several 27 = .ok (.if_icmp .ne 6, 3) := by decide +kernel
theorem dX12_several_30 : decode cX12_several 30 = .ok (.bipush (-4), 2) := by decide +kernel
theorem dX12_several_32 : decode cX12_several 32 = .ok (.ireturn, 1) := by decide +kernel
theorem dX12_several_33 : decode cX12_several 33 = .ok (.aload_n 0, 1) := by decide +kernel
theorem dX12_several_34 : decode cX12_several 34 = .ok (.getfield 168, 3) := by decide +kernel
theorem dX12_several_37 : decode cX12_several 37 = .ok (.aload_n 0, 1) := by decide +kernel
theorem dX12_several_38 : decode cX12_several 38 = .ok (.getfield 165, 3) := by decide +kernel
theorem dX12_several_41 : decode cX12_several 41 = .ok (.iload_n 1, 1) := by decide +kernel
theorem dX12_several_42 : decode cX12_several 42 = .ok (.iastore, 1) := by decide +kernel
theorem dX12_several_43 : decode cX12_several 43 = .ok (.aload_n 0, 1) := by decide +kernel
theorem dX12_several_44 : decode cX12_several 44 = .ok (.dup, 1) := by decide +kernel
theorem dX12_several_45 : decode cX12_several 45 = .ok (.getfield 165, 3) := by decide +kernel
theorem dX12_several_48 : decode cX12_several 48 = .ok (.iconst 1, 1) := by decide +kernel
theorem dX12_several_49 : decode cX12_several 49 = .ok (.iadd, 1) := by decide +kernel
theorem dX12_several_50 : decode cX12_several 50 = .ok (.putfield 165, 3) := by decide +kernel
theorem dX12_several_53 : decode cX12_several 53 = .ok (.aload_n 0, 1) := by decide +kernel
theorem dX12_several_54 : decode cX12_several 54 = .ok (.getfield 165, 3) := by decide +kernel
theorem dX12_several_57 : decode cX12_several 57 = .ok (.ireturn, 1) := by decide +kernel
theorem dX12_goAll_0 : decode cX12_goAll 0 = .ok (.aload_n 0, 1) := by decide +kernel
theorem dX12_goAll_1 : decode cX12_goAll 1 = .ok (.invokevirtual 306, 3) := by decide +kernel
theorem dX12_goAll_4 : decode cX12_goAll 4 = .ok (.aload_n 0, 1) := by decide +kernel
theorem dX12_goAll_5 : decode cX12_goAll 5 = .ok (.iconst 0, 1) := by decide +kernel
theorem dX12_goAll_6 : decode cX12_goAll 6 = .ok (.putfield 180, 3) := by decide +kernel
theorem dX12_goAll_9 : decode cX12_goAll 9 = .ok (.aload_n 0, 1) := by decide +kernel
theorem dX12_goAll_10 : decode cX12_goAll 10 = .ok (.bipush (-5), 2) := by decide +kernel
theorem dX12_goAll_12 : decode cX12_goAll 12 = .ok (.putfield 183, 3) := by decide +kernel
theorem dX12_goAll_15 : decode cX12_goAll 15 = .ok (.iconst 0, 1) := by decide +kernel
theorem dX12_goAll_16 : decode cX12_goAll 16 = .ok (.istore_n 1, 1) := by decide +kernel
theorem dX12_goAll_17 : decode cX12_goAll 17 = .ok (.iload_n 1, 1) := by decide +kernel
theorem dX12_goAll_18 : decode cX12_goAll 18 = .ok (.aload_n 0, 1) := by decide +kernel
theorem dX12_goAll_19 : decode cX12_goAll 19 = .ok (.getfield 165, 3) := by decide +kernel
theorem dX12_goAll_22 : decode cX12_goAll 22 = .ok (.if_icmp .ge 95, 3) := by decide +kernel
theorem dX12_goAll_25 : decode cX12_goAll 25 = .ok (.aload_n 0, 1) := by decide +kernel
theorem dX12_goAll_26 : decode cX12_goAll 26 = .ok (.getfield 168, 3) := by decide +kernel
theorem dX12_goAll_29 : decode cX12_goAll 29 = .ok (.aload_n 0, 1) := by decide +kernel
theorem dX12_goAll_30 : decode cX12_goAll 30 = .ok (.getfield 174, 3) := by decide +kernel
theorem dX12_goAll_33 : decode cX12_goAll 33 = .ok (.iload_n 1, 1) := by decide +kernel
theorem dX12_goAll_34 : decode cX12_goAll 34 = .ok (.iaload, 1) := by decide +kernel
theorem dX12_goAll_35 : decode cX12_goAll 35 = .ok (.iaload, 1) := by decide +kernel
theorem dX12_goAll_36 : decode cX12_goAll 36 = .ok (.istore_n 2, 1) := by decide +kernel
theorem dX12_goAll_37 : decode cX12_goAll 37 = .ok (.aload_n 0, 1) := by decide +kernel
theorem dX12_goAll_38 : decode cX12_goAll 38 = .ok (.iload_n 2, 1) := by decide +kernel
theorem dX12_goAll_39 : decode cX12_goAll 39 = .ok (.invokevirtual 364, 3) := by decide +kernel
theorem dX12_goAll_42 : decode cX12_goAll 42 = .ok (.aload_n 0, 1) := by decide +kernel
theorem dX12_goAll_43 : decode cX12_goAll 43 = .ok (.getfield 171, 3) := by decide +kernel
theorem dX12_goAll_46 : decode cX12_goAll 46 = .ok (.iload_n 1, 1) := by decide +kernel
theorem dX12_goAll_47 : decode cX12_goAll 47 = .ok (.aload_n 0, 1) := by decide +kernel
theorem dX12_goAll_48 : decode cX12_goAll 48 = .ok (.getfield 162, 3) := by decide +kernel
theorem dX12_goAll_51 : decode cX12_goAll 51 = .ok (.iastore, 1) := by decide +kernel
theorem dX12_goAll_52 : decode cX12_goAll 52 = .ok (.aload_n 0, 1) := by decide +kernel
theorem dX12_goAll_53 : decode cX12_goAll 53 = .ok (.dup, 1) := by decide +kernel
theorem dX12_goAll_54 : decode cX12_goAll 54 = .ok (.getfield 180, 3) := by decide +kernel
theorem dX12_goAll_57 : decode cX12_goAll 57 = .ok (.aload_n 0, 1) := by decide +kernel
theorem dX12_goAll_58 : decode cX12_goAll 58 = .ok (.getfield 162, 3) := by decide +kernel
theorem dX12_goAll_61 : decode cX12_goAll 61 = .ok (.ifCond .ge 7, 3) := by decide +kernel
theorem dX12_goAll_64 : decode cX12_goAll 64 = .ok (.iconst 0, 1) := by decide +kernel
theorem dX12_goAll_65 : decode cX12_goAll 65 = .ok (.goto 16, 3) := by decide +kernel
theorem dX12_goAll_68 : decode cX12_goAll 68 = .ok (.aload_n 0, 1) := by decide +kernel
theorem dX12_goAll_69 : decode cX12_goAll 69 = .ok (.getfield 114, 3) := by decide +kernel
theorem dX12_goAll_72 : decode cX12_goAll 72 = .ok (.iload_n 2, 1) := by decide +kernel
theorem dX12_goAll_73 : decode cX12_goAll 73 = .ok (.iaload, 1) := by decide +kernel
theorem dX12_goAll_74 : decode cX12_goAll 74 = .ok (.aload_n 0, 1) := by decide +kernel
theorem dX12_goAll_75 : decode cX12_goAll 75 = .ok (.iconst 4, 1) := by decide +kernel
theorem dX12_goAll_76 : decode cX12_goAll 76 = .ok (.iconst 1, 1) := by decide +kernel
theorem dX12_goAll_77 : decode cX12_goAll 77 = .ok (.invokevirtual 316, 3) := by decide +kernel
theorem dX12_goAll_80 : decode cX12_goAll 80 = .ok (.imul, 1) := by decide +kernel
theorem dX12_goAll_81 : decode cX12_goAll 81 = .ok (.iadd, 1) := by decide +kernel
theorem dX12_goAll_82 : decode cX12_goAll 82 = .ok (.putfield 180, 3) := by decide +kernel
theorem dX12_goAll_85 : decode cX12_goAll 85 = .ok (.aload_n 0, 1) := by decide +kernel
theorem dX12_goAll_86 : decode cX12_goAll 86 = .ok (.aload_n 0, 1) := by decide +kernel
theorem dX12_goAll_87 : decode cX12_goAll 87 = .ok (.getfield 162, 3) := by decide +kernel
theorem dX12_goAll_90 : decode cX12_goAll 90 = .ok (.aload_n 0, 1) := by decide +kernel
theorem dX12_goAll_91 : decode cX12_goAll 91 = .ok (.getfield 183, 3) := by decide +kernel
theorem dX12_goAll_94 : decode cX12_goAll 94 = .ok (.if_icmp .le 10, 3) := by decide +kernel
theorem dX12_goAll_97 : decode cX12_goAll 97 = .ok (.aload_n 0, 1) := by decide +kernel
theorem dX12_goAll_98 : decode cX12_goAll 98 = .ok (.getfield 162, 3) := by decide +kernel
theorem dX12_goAll_101 : decode cX12_goAll 101 = .ok (.goto 7, 3) := by decide +kernel
theorem dX12_goAll_104 : decode cX12_goAll 104 = .ok (.aload_n 0, 1) := by decide +kernel
theorem dX12_goAll_105 : decode cX12_goAll 105 = .ok (.getfield 183, 3) := by decide +kernel
theorem dX12_goAll_108 : decode cX12_goAll 108 = .ok (.putfield 183, 3) := by decide +kernel
theorem dX12_goAll_111 : decode cX12_goAll 111 = .ok (.iinc 1 1, 3) := by decide +kernel
theorem dX12_goAll_114 : decode cX12_goAll 114 = .ok (.goto (-97), 3) := by decide +kernel
theorem dX12_goAll_117 : decode cX12_goAll 117 = .ok (.return_, 1) := by decide +kernel
theorem dX12_findOrder_0 : decode cX12_findOrder 0 = .ok (.iconst (-1), 1) := by decide +kernel
theorem dX12_findOrder_1 : decode cX12_findOrder 1 = .ok (.istore_n 1, 1) := by decide +kernel
theorem dX12_findOrder_2 : decode cX12_findOrder 2 = .ok (.iconst 0, 1) := by decide +kernel
theorem dX12_findOrder_3 : decode cX12_findOrder 3 = .ok (.istore_n 2, 1) := by decide +kernel
theorem dX12_findOrder_4 : decode cX12_findOrder 4 = .ok (.iconst 0, 1) := by decide +kernel
theorem dX12_findOrder_5 : decode cX12_findOrder 5 = .ok (.istore_n 3, 1) := by decide +kernel
theorem dX12_findOrder_6 : decode cX12_findOrder 6 = .ok (.iload_n 3, 1) := by decide +kernel
theorem dX12_findOrder_7 : decode cX12_findOrder 7 = .ok (.bipush 27, 2) := by decide +kernel
theorem dX12_findOrder_9 : decode cX12_findOrder 9 = .ok (.if_icmp .ge 174, 3) := by decide +kernel
theorem dX12_findOrder_12 : decode cX12_findOrder 12 = .ok (.iload_n 3, 1) := by decide +kernel
theorem dX12_findOrder_13 : decode cX12_findOrder 13 = .ok (.istore 4, 2) := by decide +kernel
theorem dX12_findOrder_15 : decode cX12_findOrder 15 = .ok (.iconst 0, 1) := by decide +kernel
theorem dX12_findOrder_16 : decode cX12_findOrder 16 = .ok (.istore 5, 2) := by decide +kernel
theorem dX12_findOrder_18 : decode cX12_findOrder 18 = .ok (.aload_n 0, 1) := by decide +kernel
theorem dX12_findOrder_19 : decode cX12_findOrder 19 = .ok (.getfield 165, 3) := by decide +kernel
theorem dX12_findOrder_22 : decode cX12_findOrder 22 = .ok (.iconst 1, 1) := by decide +kernel
theorem dX12_findOrder_23 : decode cX12_findOrder 23 = .ok (.isub, 1) := by decide +kernel
theorem dX12_findOrder_24 : decode cX12_findOrder 24 = .ok (.istore 6, 2) := by decide +kernel
theorem dX12_findOrder_26 : decode cX12_findOrder 26 = .ok (.iload 6, 2) := by decide +kernel
theorem dX12_findOrder_28 : decode cX12_findOrder 28 = .ok (.ifCond .lt 40, 3) := by decide +kernel
theorem dX12_findOrder_31 : decode cX12_findOrder 31 = .ok (.aload_n 0, 1) := by decide +kernel
theorem dX12_findOrder_32 : decode cX12_findOrder 32 = .ok (.getfield 174, 3) := by decide +kernel
theorem dX12_findOrder_35 : decode cX12_findOrder 35 = .ok (.iload 6, 2) := by decide +kernel
theorem dX12_findOrder_37 : decode cX12_findOrder 37 = .ok (.iload 4, 2) := by decide +kernel
theorem dX12_findOrder_39 : decode cX12_findOrder 39 = .ok (.iconst 3, 1) := by decide +kernel
theorem dX12_findOrder_40 : decode cX12_findOrder 40 = .ok (.irem, 1) := by decide +kernel
theorem dX12_findOrder_41 : decode cX12_findOrder 41 = .ok (.iastore, 1) := by decide +kernel
theorem dX12_findOrder_42 : decode cX12_findOrder 42 = .ok (.iload 4, 2) := by decide +kernel
theorem dX12_findOrder_44 : decode cX12_findOrder 44 = .ok (.iconst 3, 1) := by decide +kernel
theorem dX12_findOrder_45 : decode cX12_findOrder 45 = .ok (.idiv, 1) := by decide +kernel
theorem dX12_findOrder_46 : decode cX12_findOrder 46 = .ok (.istore 4, 2) := by decide +kernel
theorem dX12_findOrder_48 : decode cX12_findOrder 48 = .ok (.iload 5, 2) := by decide +kernel
theorem dX12_findOrder_50 : decode cX12_findOrder 50 = .ok (.iconst 1, 1) := by decide +kernel
theorem dX12_findOrder_51 : decode cX12_findOrder 51 = .ok (.aload_n 0, 1) := by decide +kernel
theorem dX12_findOrder_52 : decode cX12_findOrder 52 = .ok (.getfield 174, 3) := by decide +kernel
theorem dX12_findOrder_55 : decode cX12_findOrder 55 = .ok (.iload 6, 2) := by decide +kernel
theorem dX12_findOrder_57 : decode cX12_findOrder 57 = .ok (.iaload, 1) := by decide +kernel
theorem dX12_findOrder_58 : decode cX12_findOrder 58 = .ok (.ishl, 1) := by decide +kernel
theorem dX12_findOrder_59 : decode cX12_findOrder 59 = .ok (.ior, 1) := by decide +kernel
theorem dX12_findOrder_60 : decode cX12_findOrder 60 = .ok (.istore 5, 2) := by decide +kernel
theorem dX12_findOrder_62 : decode cX12_findOrder 62 = .ok (.iinc 6 (-1), 3) := by decide +kernel
theorem dX12_findOrder_65 : decode cX12_findOrder 65 = .ok (.goto (-39), 3) := by decide +kernel
theorem dX12_findOrder_68 : decode cX12_findOrder 68 = .ok (.iload 4, 2) := by decide +kernel
theorem dX12_findOrder_70 : decode cX12_findOrder 70 = .ok (.ifCond .gt 107, 3) := by decide +kernel
theorem dX12_findOrder_73 : decode cX12_findOrder 73 = .ok (.iload 5, 2) := by decide +kernel
theorem dX12_findOrder_75 : decode cX12_findOrder 75 = .ok (.iconst 1, 1) := by decide +kernel
theorem dX12_findOrder_76 : decode cX12_findOrder 76 = .ok (.aload_n 0, 1) := by decide +kernel
theorem dX12_findOrder_77 : decode cX12_findOrder 77 = .ok (.getfield 165, 3) := by decide +kernel
theorem dX12_findOrder_80 : decode cX12_findOrder 80 = .ok (.ishl, 1) := by decide +kernel
theorem dX12_findOrder_81 : decode cX12_findOrder 81 = .ok (.iconst 1, 1) := by decide +kernel
theorem dX12_findOrder_82 : decode cX12_findOrder 82 = .ok (.isub, 1) := by decide +kernel
theorem dX12_findOrder_83 : decode cX12_findOrder 83 = .ok (.if_icmp .eq 6, 3) := by decide +kernel
theorem dX12_findOrder_86 : decode cX12_findOrder 86 = .ok (.goto 91, 3) := by decide +kernel
theorem dX12_findOrder_89 : decode cX12_findOrder 89 = .ok (.aload_n 0, 1) := by decide +kernel
theorem dX12_findOrder_90 : decode cX12_findOrder 90 = .ok (.invokevirtual 370, 3) := by decide +kernel
theorem dX12_findOrder_93 : decode cX12_findOrder 93 = .ok (.aload_n 0, 1) := by decide +kernel
theorem dX12_findOrder_94 : decode cX12_findOrder 94 = .ok (.getfield 183, 3) := by decide +kernel
theorem dX12_findOrder_97 : decode cX12_findOrder 97 = .ok (.ifCond .ge 9, 3) := by decide +kernel
theorem dX12_findOrder_100 : decode cX12_findOrder 100 = .ok (.ldc_w 373, 3) := by decide +kernel
theorem dX12_findOrder_103 : decode cX12_findOrder 103 = .ok (.goto 7, 3) := by decide +kernel
theorem dX12_findOrder_106 : decode cX12_findOrder 106 = .ok (.aload_n 0, 1) := by decide +kernel
theorem dX12_findOrder_107 : decode cX12_findOrder 107 = .ok (.getfield 183, 3) := by decide +kernel
theorem dX12_findOrder_110 : decode cX12_findOrder 110 = .ok (.istore 6, 2) := by decide +kernel
theorem dX12_findOrder_112 : decode cX12_findOrder 112 = .ok (.aload_n 0, 1) := by decide +kernel
theorem dX12_findOrder_113 : decode cX12_findOrder 113 = .ok (.getfield 180, 3) := by decide +kernel
theorem dX12_findOrder_116 : decode cX12_findOrder 116 = .ok (.iload_n 1, 1) := by decide +kernel
theorem dX12_findOrder_117 : decode cX12_findOrder 117 = .ok (.if_icmp .lt 60, 3) := by decide +kernel
theorem dX12_findOrder_120 : decode cX12_findOrder 120 = .ok (.aload_n 0, 1) := by decide +kernel
theorem dX12_findOrder_121 : decode cX12_findOrder 121 = .ok (.getfield 180, 3) := by decide +kernel
theorem dX12_findOrder_124 : decode cX12_findOrder 124 = .ok (.iload_n 1, 1) := by decide +kernel
theorem dX12_findOrder_125 : decode cX12_findOrder 125 = .ok (.if_icmp .ne 12, 3) := by decide +kernel
theorem dX12_findOrder_128 : decode cX12_findOrder 128 = .ok (.iload 6, 2) := by decide +kernel
theorem dX12_findOrder_130 : decode cX12_findOrder 130 = .ok (.iload_n 2, 1) := by decide +kernel
theorem dX12_findOrder_131 : decode cX12_findOrder 131 = .ok (.if_icmp .lt 6, 3) := by decide +kernel
theorem dX12_findOrder_134 : decode cX12_findOrder 134 = .ok (.goto 43, 3) := by decide +kernel
theorem dX12_findOrder_137 : decode cX12_findOrder 137 = .ok (.aload_n 0, 1) := by decide +kernel
theorem dX12_findOrder_138 : decode cX12_findOrder 138 = .ok (.getfield 180, 3) := by decide +kernel
theorem dX12_findOrder_141 : decode cX12_findOrder 141 = .ok (.istore_n 1, 1) := by decide +kernel
theorem dX12_findOrder_142 : decode cX12_findOrder 142 = .ok (.iload 6, 2) := by decide +kernel
theorem dX12_findOrder_144 : decode cX12_findOrder 144 = .ok (.istore_n 2, 1) := by decide +kernel
theorem dX12_findOrder_145 : decode cX12_findOrder 145 = .ok (.iconst 0, 1) := by decide +kernel
theorem dX12_findOrder_146 : decode cX12_findOrder 146 = .ok (.istore 7, 2) := by decide +kernel
theorem dX12_findOrder_148 : decode cX12_findOrder 148 = .ok (.iload 7, 2) := by decide +kernel
theorem dX12_findOrder_150 : decode cX12_findOrder 150 = .ok (.aload_n 0, 1) := by decide +kernel
theorem dX12_findOrder_151 : decode cX12_findOrder 151 = .ok (.getfield 165, 3) := by decide +kernel
theorem dX12_findOrder_154 : decode cX12_findOrder 154 = .ok (.if_icmp .ge 23, 3) := by decide +kernel
theorem dX12_findOrder_157 : decode cX12_findOrder 157 = .ok (.aload_n 0, 1) := by decide +kernel
theorem dX12_findOrder_158 : decode cX12_findOrder 158 = .ok (.getfield 177, 3) := by decide +kernel
theorem dX12_findOrder_161 : decode cX12_findOrder 161 = .ok (.iload 7, 2) := by decide +kernel
theorem dX12_findOrder_163 : decode cX12_findOrder 163 = .ok (.aload_n 0, 1) := by decide +kernel
theorem dX12_findOrder_164 : decode cX12_findOrder 164 = .ok (.getfield 174, 3) := by decide +kernel
theorem dX12_findOrder_167 : decode cX12_findOrder 167 = .ok (.iload 7, 2) := by decide +kernel
theorem dX12_findOrder_169 : decode cX12_findOrder 169 = .ok (.iaload, 1) := by decide +kernel
theorem dX12_findOrder_170 : decode cX12_findOrder 170 = .ok (.iastore, 1) := by decide +kernel
theorem dX12_findOrder_171 : decode cX12_findOrder 171 = .ok (.iinc 7 1, 3) := by decide +kernel
theorem dX12_findOrder_174 : decode cX12_findOrder 174 = .ok (.goto (-26), 3) := by decide +kernel
theorem dX12_findOrder_177 : decode cX12_findOrder 177 = .ok (.iinc 3 1, 3) := by decide +kernel
theorem dX12_findOrder_180 : decode cX12_findOrder 180 = .ok (.goto (-174), 3) := by decide +kernel
theorem dX12_findOrder_183 : decode cX12_findOrder 183 = .ok (.iload_n 1, 1) := by decide +kernel
theorem dX12_findOrder_184 : decode cX12_findOrder 184 = .ok (.ireturn, 1) := by decide +kernel
theorem dX12_all_0 : decode cX12_all 0 = .ok (.aload_n 0, 1) := by decide +kernel
theorem dX12_all_1 : decode cX12_all 1 = .ok (.iload_n 1, 1) := by decide +kernel
theorem dX12_all_2 : decode cX12_all 2 = .ok (.iconst 0, 1) := by decide +kernel
theorem dX12_all_3 : decode cX12_all 3 = .ok (.iconst 5, 1) := by decide +kernel
theorem dX12_all_4 : decode cX12_all 4 = .ok (.invokevirtual 233, 3) := by decide +kernel
theorem dX12_all_7 : decode cX12_all 7 = .ok (.ifCond .ne 22, 3) := by decide +kernel
theorem dX12_all_10 : decode cX12_all 10 = .ok (.aload_n 0, 1) := by decide +kernel
theorem dX12_all_11 : decode cX12_all 11 = .ok (.iload_n 1, 1) := by decide +kernel
theorem dX12_all_12 : decode cX12_all 12 = .ok (.bipush 10, 2) := by decide +kernel
theorem dX12_all_14 : decode cX12_all 14 = .ok (.bipush 9, 2) := by decide +kernel
theorem dX12_all_16 : decode cX12_all 16 = .ok (.aload_n 0, 1) := by decide +kernel
theorem dX12_all_17 : decode cX12_all 17 = .ok (.getfield 165, 3) := by decide +kernel
theorem dX12_all_20 : decode cX12_all 20 = .ok (.iadd, 1) := by decide +kernel
theorem dX12_all_21 : decode cX12_all 21 = .ok (.invokevirtual 233, 3) := by decide +kernel
theorem dX12_all_24 : decode cX12_all 24 = .ok (.ifCond .ne 5, 3) := by decide +kernel
theorem dX12_all_27 : decode cX12_all 27 = .ok (.iconst (-1), 1) := by decide +kernel
theorem dX12_all_28 : decode cX12_all 28 = .ok (.ireturn, 1) := by decide +kernel
theorem dX12_all_29 : decode cX12_all 29 = .ok (.aload_n 0, 1) := by decide +kernel
theorem dX12_all_30 : decode cX12_all 30 = .ok (.getfield 13, 3) := by decide +kernel
theorem dX12_all_33 : decode cX12_all 33 = .ok (.ifCond .ge 6, 3) := by decide +kernel
theorem dX12_all_36 : decode cX12_all 36 = .ok (.bipush (-3), 2) := by decide +kernel
theorem dX12_all_38 : decode cX12_all 38 = .ok (.ireturn, 1) := by decide +kernel
theorem dX12_all_39 : decode cX12_all 39 = .ok (.aload_n 0, 1) := by decide +kernel
theorem dX12_all_40 : decode cX12_all 40 = .ok (.iload_n 1, 1) := by decide +kernel
theorem dX12_all_41 : decode cX12_all 41 = .ok (.iconst 2, 1) := by decide +kernel
theorem dX12_all_42 : decode cX12_all 42 = .ok (.iconst 5, 1) := by decide +kernel
theorem dX12_all_43 : decode cX12_all 43 = .ok (.invokevirtual 233, 3) := by decide +kernel
theorem dX12_all_46 : decode cX12_all 46 = .ok (.ifCond .eq 41, 3) := by decide +kernel
theorem dX12_all_49 : decode cX12_all 49 = .ok (.aload_n 0, 1) := by decide +kernel
theorem dX12_all_50 : decode cX12_all 50 = .ok (.invokevirtual 374, 3) := by decide +kernel
theorem dX12_all_53 : decode cX12_all 53 = .ok (.istore_n 2, 1) := by decide +kernel
theorem dX12_all_54 : decode cX12_all 54 = .ok (.iload_n 1, 1) := by decide +kernel
theorem dX12_all_55 : decode cX12_all 55 = .ok (.iconst 5, 1) := by decide +kernel
theorem dX12_all_56 : decode cX12_all 56 = .ok (.if_icmp .ne 7, 3) := by decide +kernel
theorem dX12_all_59 : decode cX12_all 59 = .ok (.iload_n 2, 1) := by decide +kernel
theorem dX12_all_60 : decode cX12_all 60 = .ok (.goto 26, 3) := by decide +kernel
theorem dX12_all_63 : decode cX12_all 63 = .ok (.iload_n 1, 1) := by decide +kernel
theorem dX12_all_64 : decode cX12_all 64 = .ok (.iconst 2, 1) := by decide +kernel
theorem dX12_all_65 : decode cX12_all 65 = .ok (.isub, 1) := by decide +kernel
theorem dX12_all_66 : decode cX12_all 66 = .ok (.aload_n 0, 1) := by decide +kernel
theorem dX12_all_67 : decode cX12_all 67 = .ok (.getfield 165, 3) := by decide +kernel
theorem dX12_all_70 : decode cX12_all 70 = .ok (.if_icmp .ge 14, 3) := by decide +kernel
theorem dX12_all_73 : decode cX12_all 73 = .ok (.aload_n 0, 1) := by decide +kernel
theorem dX12_all_74 : decode cX12_all 74 = .ok (.getfield 177, 3) := by decide +kernel
theorem dX12_all_77 : decode cX12_all 77 = .ok (.iload_n 1, 1) := by decide +kernel
theorem dX12_all_78 : decode cX12_all 78 = .ok (.iconst 2, 1) := by decide +kernel
theorem dX12_all_79 : decode cX12_all 79 = .ok (.isub, 1) := by decide +kernel
theorem dX12_all_80 : decode cX12_all 80 = .ok (.iaload, 1) := by decide +kernel
theorem dX12_all_81 : decode cX12_all 81 = .ok (.goto 5, 3) := by decide +kernel
theorem dX12_all_84 : decode cX12_all 84 = .ok (.bipush (-5), 2) := by decide +kernel
theorem dX12_all_86 : decode cX12_all 86 = .ok (.ireturn, 1) := by decide +kernel
theorem dX12_all_87 : decode cX12_all 87 = .ok (.iconst 0, 1) := by decide +kernel
theorem dX12_all_88 : decode cX12_all 88 = .ok (.istore_n 2, 1) := by decide +kernel
theorem dX12_all_89 : decode cX12_all 89 = .ok (.iload_n 2, 1) := by decide +kernel
theorem dX12_all_90 : decode cX12_all 90 = .ok (.iconst 3, 1) := by decide +kernel
theorem dX12_all_91 : decode cX12_all 91 = .ok (.if_icmp .ge 16, 3) := by decide +kernel
theorem dX12_all_94 : decode cX12_all 94 = .ok (.aload_n 0, 1) := by decide +kernel
theorem dX12_all_95 : decode cX12_all 95 = .ok (.getfield 174, 3) := by decide +kernel
theorem dX12_all_98 : decode cX12_all 98 = .ok (.iload_n 2, 1) := by decide +kernel
theorem dX12_all_99 : decode cX12_all 99 = .ok (.iload_n 2, 1) := by decide +kernel
theorem dX12_all_100 : decode cX12_all 100 = .ok (.iastore, 1) := by decide +kernel
theorem dX12_all_101 : decode cX12_all 101 = .ok (.iinc 2 1, 3) := by decide +kernel
theorem dX12_all_104 : decode cX12_all 104 = .ok (.goto (-15), 3) := by decide +kernel
theorem dX12_all_107 : decode cX12_all 107 = .ok (.aload_n 0, 1) := by decide +kernel
theorem dX12_all_108 : decode cX12_all 108 = .ok (.invokevirtual 370, 3) := by decide +kernel
theorem dX12_all_111 : decode cX12_all 111 = .ok (.iload_n 1, 1) := by decide +kernel
theorem dX12_all_112 : decode cX12_all 112 = .ok (.ifCond .ne 10, 3) := by decide +kernel
theorem dX12_all_115 : decode cX12_all 115 = .ok (.aload_n 0, 1) := by decide +kernel
theorem dX12_all_116 : decode cX12_all 116 = .ok (.getfield 180, 3) := by decide +kernel
theorem dX12_all_119 : decode cX12_all 119 = .ok (.goto 24, 3) := by decide +kernel
theorem dX12_all_122 : decode cX12_all 122 = .ok (.iload_n 1, 1) := by decide +kernel
theorem dX12_all_123 : decode cX12_all 123 = .ok (.iconst 1, 1) := by decide +kernel
theorem dX12_all_124 : decode cX12_all 124 = .ok (.if_icmp .ne 10, 3) := by decide +kernel
theorem dX12_all_127 : decode cX12_all 127 = .ok (.aload_n 0, 1) := by decide +kernel
theorem dX12_all_128 : decode cX12_all 128 = .ok (.getfield 183, 3) := by decide +kernel
theorem dX12_all_131 : decode cX12_all 131 = .ok (.goto 12, 3) := by decide +kernel
theorem dX12_all_134 : decode cX12_all 134 = .ok (.aload_n 0, 1) := by decide +kernel
theorem dX12_all_135 : decode cX12_all 135 = .ok (.getfield 171, 3) := by decide +kernel
theorem dX12_all_138 : decode cX12_all 138 = .ok (.iload_n 1, 1) := by decide +kernel
theorem dX12_all_139 : decode cX12_all 139 = .ok (.bipush 10, 2) := by decide +kernel
theorem dX12_all_141 : decode cX12_all 141 = .ok (.isub, 1) := by decide +kernel
theorem dX12_all_142 : decode cX12_all 142 = .ok (.iaload, 1) := by decide +kernel
theorem dX12_all_143 : decode cX12_all 143 = .ok (.ireturn, 1) := by decide +kernel
theorem dX12_divisor_0 : decode cX12_divisor 0 = .ok (.lload_n 1, 1) := by decide +kernel
theorem dX12_divisor_1 : decode cX12_divisor 1 = .ok (.lstore 5, 2) := by decide +kernel
theorem dX12_divisor_3 : decode cX12_divisor 3 = .ok (.lload_n 3, 1) := by decide +kernel
theorem dX12_divisor_4 : decode cX12_divisor 4 = .ok (.lstore 7, 2) := by decide +kernel
theorem dX12_divisor_6 : decode cX12_divisor 6 = .ok (.lload 7, 2) := by decide +kernel
theorem dX12_divisor_8 : decode cX12_divisor 8 = .ok (.lconst 0, 1) := by decide +kernel
theorem dX12_divisor_9 : decode cX12_divisor 9 = .ok (.lcmp, 1) := by decide +kernel
theorem dX12_divisor_10 : decode cX12_divisor 10 = .ok (.ifCond .eq 21, 3) := by decide +kernel
theorem dX12_divisor_13 : decode cX12_divisor 13 = .ok (.lload 5, 2) := by decide +kernel
theorem dX12_divisor_15 : decode cX12_divisor 15 = .ok (.lload 7, 2) := by decide +kernel
theorem dX12_divisor_17 : decode cX12_divisor 17 = .ok (.lrem, 1) := by decide +kernel
theorem dX12_divisor_18 : decode cX12_divisor 18 = .ok (.lstore 9, 2) := by decide +kernel
theorem dX12_divisor_20 : decode cX12_divisor 20 = .ok (.lload 7, 2) := by decide +kernel
theorem dX12_divisor_22 : decode cX12_divisor 22 = .ok (.lstore 5, 2) := by decide +kernel
theorem dX12_divisor_24 : decode cX12_divisor 24 = .ok (.lload 9, 2) := by decide +kernel
theorem dX12_divisor_26 : decode cX12_divisor 26 = .ok (.lstore 7, 2) := by decide +kernel
theorem dX12_divisor_28 : decode cX12_divisor 28 = .ok (.goto (-22), 3) := by decide +kernel
theorem dX12_divisor_31 : decode cX12_divisor 31 = .ok (.lload 5, 2) := by decide +kernel
theorem dX12_divisor_33 : decode cX12_divisor 33 = .ok (.lreturn, 1) := by decide +kernel
theorem dX12_likely_0 : decode cX12_likely 0 = .ok (.aload_n 0, 1) := by decide +kernel
theorem dX12_likely_1 : decode cX12_likely 1 = .ok (.iload_n 1, 1) := by decide +kernel
theorem dX12_likely_2 : decode cX12_likely 2 = .ok (.invokevirtual 358, 3) := by decide +kernel
theorem dX12_likely_5 : decode cX12_likely 5 = .ok (.ifCond .eq 20, 3) := by decide +kernel
theorem dX12_likely_8 : decode cX12_likely 8 = .ok (.aload_n 0, 1) := by decide +kernel
theorem dX12_likely_9 : decode cX12_likely 9 = .ok (.iload_n 2, 1) := by decide +kernel
theorem dX12_likely_10 : decode cX12_likely 10 = .ok (.iconst 0, 1) := by decide +kernel
theorem dX12_likely_11 : decode cX12_likely 11 = .ok (.iconst 1, 1) := by decide +kernel
theorem dX12_likely_12 : decode cX12_likely 12 = .ok (.invokevirtual 233, 3) := by decide +kernel
theorem dX12_likely_15 : decode cX12_likely 15 = .ok (.ifCond .eq 10, 3) := by decide +kernel
theorem dX12_likely_18 : decode cX12_likely 18 = .ok (.aload_n 0, 1) := by decide +kernel
theorem dX12_likely_19 : decode cX12_likely 19 = .ok (.getfield 13, 3) := by decide +kernel
theorem dX12_likely_22 : decode cX12_likely 22 = .ok (.ifCond .ge 7, 3) := by decide +kernel
theorem dX12_likely_25 : decode cX12_likely 25 = .ok (.ldc2_w 377, 3) := by decide +kernel
theorem dX12_likely_28 : decode cX12_likely 28 = .ok (.lreturn, 1) := by decide +kernel
theorem dX12_likely_29 : decode cX12_likely 29 = .ok (.aload_n 0, 1) := by decide +kernel
theorem dX12_likely_30 : decode cX12_likely 30 = .ok (.invokevirtual 306, 3) := by decide +kernel
theorem dX12_likely_33 : decode cX12_likely 33 = .ok (.aload_n 0, 1) := by decide +kernel
theorem dX12_likely_34 : decode cX12_likely 34 = .ok (.getfield 75, 3) := by decide +kernel
theorem dX12_likely_37 : decode cX12_likely 37 = .ok (.istore_n 3, 1) := by decide +kernel
theorem dX12_likely_38 : decode cX12_likely 38 = .ok (.lconst 0, 1) := by decide +kernel
theorem dX12_likely_39 : decode cX12_likely 39 = .ok (.lstore 4, 2) := by decide +kernel
theorem dX12_likely_41 : decode cX12_likely 41 = .ok (.lconst 1, 1) := by decide +kernel
theorem dX12_likely_42 : decode cX12_likely 42 = .ok (.lstore 6, 2) := by decide +kernel
theorem dX12_likely_44 : decode cX12_likely 44 = .ok (.iconst 0, 1) := by decide +kernel
theorem dX12_likely_45 : decode cX12_likely 45 = .ok (.istore 8, 2) := by decide +kernel
theorem dX12_likely_47 : decode cX12_likely 47 = .ok (.iload 8, 2) := by decide +kernel
theorem dX12_likely_49 : decode cX12_likely 49 = .ok (.iload_n 3, 1) := by decide +kernel
theorem dX12_likely_50 : decode cX12_likely 50 = .ok (.if_icmp .ge 17, 3) := by decide +kernel
theorem dX12_likely_53 : decode cX12_likely 53 = .ok (.lload 6, 2) := by decide +kernel
theorem dX12_likely_55 : decode cX12_likely 55 = .ok (.ldc2_w 379, 3) := by decide +kernel
theorem dX12_likely_58 : decode cX12_likely 58 = .ok (.lmul, 1) := by decide +kernel
theorem dX12_likely_59 : decode cX12_likely 59 = .ok (.lstore 6, 2) := by decide +kernel
theorem dX12_likely_61 : decode cX12_likely 61 = .ok (.iinc 8 1, 3) := by decide +kernel
theorem dX12_likely_64 : decode cX12_likely 64 = .ok (.goto (-17), 3) := by decide +kernel
theorem dX12_likely_67 : decode cX12_likely 67 = .ok (.iconst 0, 1) := by decide +kernel
theorem dX12_likely_68 : decode cX12_likely 68 = .ok (.istore 8, 2) := by decide +kernel
theorem dX12_likely_70 : decode cX12_likely 70 = .ok (.iload 8, 2) := by decide +kernel
theorem dX12_likely_72 : decode cX12_likely 72 = .ok (.iconst 1, 1) := by decide +kernel
theorem dX12_likely_73 : decode cX12_likely 73 = .ok (.iload_n 3, 1) := by decide +kernel
theorem dX12_likely_74 : decode cX12_likely 74 = .ok (.ishl, 1) := by decide +kernel
theorem dX12_likely_75 : decode cX12_likely 75 = .ok (.if_icmp .ge 183, 3) := by decide +kernel
theorem dX12_likely_78 : decode cX12_likely 78 = .ok (.lconst 1, 1) := by decide +kernel
theorem dX12_likely_79 : decode cX12_likely 79 = .ok (.lstore 9, 2) := by decide +kernel
theorem dX12_likely_81 : decode cX12_likely 81 = .ok (.aload_n 0, 1) := by decide +kernel
theorem dX12_likely_82 : decode cX12_likely 82 = .ok (.invokevirtual 306, 3) := by decide +kernel
theorem dX12_likely_85 : decode cX12_likely 85 = .ok (.iconst 0, 1) := by decide +kernel
theorem dX12_likely_86 : decode cX12_likely 86 = .ok (.istore 11, 2) := by decide +kernel
theorem dX12_likely_88 : decode cX12_likely 88 = .ok (.iload 11, 2) := by decide +kernel
theorem dX12_likely_90 : decode cX12_likely 90 = .ok (.iload_n 3, 1) := by decide +kernel
theorem dX12_likely_91 : decode cX12_likely 91 = .ok (.if_icmp .ge 128, 3) := by decide +kernel
theorem dX12_likely_94 : decode cX12_likely 94 = .ok (.iload 8, 2) := by decide +kernel
theorem dX12_likely_96 : decode cX12_likely 96 = .ok (.iload 11, 2) := by decide +kernel
theorem dX12_likely_98 : decode cX12_likely 98 = .ok (.ishr, 1) := by decide +kernel
theorem dX12_likely_99 : decode cX12_likely 99 = .ok (.iconst 1, 1) := by decide +kernel
theorem dX12_likely_100 : decode cX12_likely 100 = .ok (.iand, 1) := by decide +kernel
theorem dX12_likely_101 : decode cX12_likely 101 = .ok (.iconst 1, 1) := by decide +kernel
theorem dX12_likely_102 : decode cX12_likely 102 = .ok (.if_icmp .ne 7, 3) := by decide +kernel
theorem dX12_likely_105 : decode cX12_likely 105 = .ok (.iconst 1, 1) := by decide +kernel
theorem dX12_likely_106 : decode cX12_likely 106 = .ok (.goto 4, 3) := by decide +kernel
theorem dX12_likely_109 : decode cX12_likely 109 = .ok (.iconst 0, 1) := by decide +kernel
theorem dX12_likely_110 : decode cX12_likely 110 = .ok (.istore 12, 2) := by decide +kernel
theorem dX12_likely_112 : decode cX12_likely 112 = .ok (.lload 9, 2) := by decide +kernel
theorem dX12_likely_114 : decode cX12_likely 114 = .ok (.iload 12, 2) := by decide +kernel
theorem dX12_likely_116 : decode cX12_likely 116 = .ok (.ifCond .eq 14, 3) := by decide +kernel
theorem dX12_likely_119 : decode cX12_likely 119 = .ok (.aload_n 0, 1) := by decide +kernel
theorem dX12_likely_120 : decode cX12_likely 120 = .ok (.getfield 72, 3) := by decide +kernel
theorem dX12_likely_123 : decode cX12_likely 123 = .ok (.iload 11, 2) := by decide +kernel
theorem dX12_likely_125 : decode cX12_likely 125 = .ok (.iaload, 1) := by decide +kernel
theorem dX12_likely_126 : decode cX12_likely 126 = .ok (.i2l, 1) := by decide +kernel
theorem dX12_likely_127 : decode cX12_likely 127 = .ok (.goto 14, 3) := by decide +kernel
theorem dX12_likely_130 : decode cX12_likely 130 = .ok (.bipush 10, 2) := by decide +kernel
theorem dX12_likely_132 : decode cX12_likely 132 = .ok (.aload_n 0, 1) := by decide +kernel
theorem dX12_likely_133 : decode cX12_likely 133 = .ok (.getfield 72, 3) := by decide +kernel
theorem dX12_likely_136 : decode cX12_likely 136 = .ok (.iload 11, 2) := by decide +kernel
theorem dX12_likely_138 : decode cX12_likely 138 = .ok (.iaload, 1) := by decide +kernel
theorem dX12_likely_139 : decode cX12_likely 139 = .ok (.isub, 1) := by decide +kernel
theorem dX12_likely_140 : decode cX12_likely 140 = .ok (.i2l, 1) := by decide +kernel
theorem dX12_likely_141 : decode cX12_likely 141 = .ok (.lmul, 1) := by decide +kernel
theorem dX12_likely_142 : decode cX12_likely 142 = .ok (.lstore 9, 2) := by decide +kernel
theorem dX12_likely_144 : decode cX12_likely 144 = .ok (.aload_n 0, 1) := by decide +kernel
theorem dX12_likely_145 : decode cX12_likely 145 = .ok (.getfield 78, 3) := by decide +kernel
theorem dX12_likely_148 : decode cX12_likely 148 = .ok (.iload 11, 2) := by decide +kernel
theorem dX12_likely_150 : decode cX12_likely 150 = .ok (.iload 12, 2) := by decide +kernel
theorem dX12_likely_152 : decode cX12_likely 152 = .ok (.ifCond .eq 7, 3) := by decide +kernel
theorem dX12_likely_155 : decode cX12_likely 155 = .ok (.iconst 0, 1) := by decide +kernel
theorem dX12_likely_156 : decode cX12_likely 156 = .ok (.goto 10, 3) := by decide +kernel
theorem dX12_likely_159 : decode cX12_likely 159 = .ok (.aload_n 0, 1) := by decide +kernel
theorem dX12_likely_160 : decode cX12_likely 160 = .ok (.getfield 78, 3) := by decide +kernel
theorem dX12_likely_163 : decode cX12_likely 163 = .ok (.iload 11, 2) := by decide +kernel
theorem dX12_likely_165 : decode cX12_likely 165 = .ok (.iaload, 1) := by decide +kernel
theorem dX12_likely_166 : decode cX12_likely 166 = .ok (.iastore, 1) := by decide +kernel
theorem dX12_likely_167 : decode cX12_likely 167 = .ok (.aload_n 0, 1) := by decide +kernel
theorem dX12_likely_168 : decode cX12_likely 168 = .ok (.getfield 81, 3) := by decide +kernel
theorem dX12_likely_171 : decode cX12_likely 171 = .ok (.iload 11, 2) := by decide +kernel
theorem dX12_likely_173 : decode cX12_likely 173 = .ok (.iload 12, 2) := by decide +kernel
theorem dX12_likely_175 : decode cX12_likely 175 = .ok (.ifCond .eq 7, 3) := by decide +kernel
theorem dX12_likely_178 : decode cX12_likely 178 = .ok (.iconst 0, 1) := by decide +kernel
theorem dX12_likely_179 : decode cX12_likely 179 = .ok (.goto 10, 3) := by decide +kernel
theorem dX12_likely_182 : decode cX12_likely 182 = .ok (.aload_n 0, 1) := by decide +kernel
theorem dX12_likely_183 : decode cX12_likely 183 = .ok (.getfield 81, 3) := by decide +kernel
theorem dX12_likely_186 : decode cX12_likely 186 = .ok (.iload 11, 2) := by decide +kernel
theorem dX12_likely_188 : decode cX12_likely 188 = .ok (.iaload, 1) := by decide +kernel
theorem dX12_likely_189 : decode cX12_likely 189 = .ok (.iastore, 1) := by decide +kernel
theorem dX12_likely_190 : decode cX12_likely 190 = .ok (.aload_n 0, 1) := by decide +kernel
theorem dX12_likely_191 : decode cX12_likely 191 = .ok (.getfield 87, 3) := by decide +kernel
theorem dX12_likely_194 : decode cX12_likely 194 = .ok (.iload 11, 2) := by decide +kernel
theorem dX12_likely_196 : decode cX12_likely 196 = .ok (.iload 12, 2) := by decide +kernel
theorem dX12_likely_198 : decode cX12_likely 198 = .ok (.ifCond .eq 7, 3) := by decide +kernel
theorem dX12_likely_201 : decode cX12_likely 201 = .ok (.iconst 0, 1) := by decide +kernel
theorem dX12_likely_202 : decode cX12_likely 202 = .ok (.goto 10, 3) := by decide +kernel
theorem dX12_likely_205 : decode cX12_likely 205 = .ok (.aload_n 0, 1) := by decide +kernel
theorem dX12_likely_206 : decode cX12_likely 206 = .ok (.getfield 87, 3) := by decide +kernel
theorem dX12_likely_209 : decode cX12_likely 209 = .ok (.iload 11, 2) := by decide +kernel
theorem dX12_likely_211 : decode cX12_likely 211 = .ok (.iaload, 1) := by decide +kernel
theorem dX12_likely_212 : decode cX12_likely 212 = .ok (.iastore, 1) := by decide +kernel
theorem dX12_likely_213 : decode cX12_likely 213 = .ok (.iinc 11 1, 3) := by decide +kernel
theorem dX12_likely_216 : decode cX12_likely 216 = .ok (.goto (-128), 3) := by decide +kernel
theorem dX12_likely_219 : decode cX12_likely 219 = .ok (.lload 9, 2) := by decide +kernel
theorem dX12_likely_221 : decode cX12_likely 221 = .ok (.lconst 0, 1) := by decide +kernel
theorem dX12_likely_222 : decode cX12_likely 222 = .ok (.lcmp, 1) := by decide +kernel
theorem dX12_likely_223 : decode cX12_likely 223 = .ok (.ifCond .ne 6, 3) := by decide +kernel
theorem dX12_likely_226 : decode cX12_likely 226 = .ok (.goto 26, 3) := by decide +kernel
theorem dX12_likely_229 : decode cX12_likely 229 = .ok (.aload_n 0, 1) := by decide +kernel
theorem dX12_likely_230 : decode cX12_likely 230 = .ok (.iload_n 1, 1) := by decide +kernel
theorem dX12_likely_231 : decode cX12_likely 231 = .ok (.invokevirtual 364, 3) := by decide +kernel
theorem dX12_likely_234 : decode cX12_likely 234 = .ok (.lload 4, 2) := by decide +kernel
theorem dX12_likely_236 : decode cX12_likely 236 = .ok (.aload_n 0, 1) := by decide +kernel
theorem dX12_likely_237 : decode cX12_likely 237 = .ok (.getfield 162, 3) := by decide +kernel
theorem dX12_likely_240 : decode cX12_likely 240 = .ok (.ifCond .ge 7, 3) := by decide +kernel
theorem dX12_likely_243 : decode cX12_likely 243 = .ok (.lconst 0, 1) := by decide +kernel
theorem dX12_likely_244 : decode cX12_likely 244 = .ok (.goto 5, 3) := by decide +kernel
theorem dX12_likely_247 : decode cX12_likely 247 = .ok (.lload 9, 2) := by decide +kernel
theorem dX12_likely_249 : decode cX12_likely 249 = .ok (.ladd, 1) := by decide +kernel
theorem dX12_likely_250 : decode cX12_likely 250 = .ok (.lstore 4, 2) := by decide +kernel
theorem dX12_likely_252 : decode cX12_likely 252 = .ok (.iinc 8 1, 3) := by decide +kernel
theorem dX12_likely_255 : decode cX12_likely 255 = .ok (.goto (-185), 3) := by decide +kernel
theorem dX12_likely_258 : decode cX12_likely 258 = .ok (.aload_n 0, 1) := by decide +kernel
theorem dX12_likely_259 : decode cX12_likely 259 = .ok (.lload 4, 2) := by decide +kernel
theorem dX12_likely_261 : decode cX12_likely 261 = .ok (.lload 6, 2) := by decide +kernel
theorem dX12_likely_263 : decode cX12_likely 263 = .ok (.invokevirtual 381, 3) := by decide +kernel
theorem dX12_likely_266 : decode cX12_likely 266 = .ok (.lstore 8, 2) := by decide +kernel
theorem dX12_likely_268 : decode cX12_likely 268 = .ok (.iload_n 2, 1) := by decide +kernel
theorem dX12_likely_269 : decode cX12_likely 269 = .ok (.ifCond .ne 11, 3) := by decide +kernel
theorem dX12_likely_272 : decode cX12_likely 272 = .ok (.lload 4, 2) := by decide +kernel
theorem dX12_likely_274 : decode cX12_likely 274 = .ok (.lload 8, 2) := by decide +kernel
theorem dX12_likely_276 : decode cX12_likely 276 = .ok (.ldiv, 1) := by decide +kernel
theorem dX12_likely_277 : decode cX12_likely 277 = .ok (.goto 8, 3) := by decide +kernel
theorem dX12_likely_280 : decode cX12_likely 280 = .ok (.lload 6, 2) := by decide +kernel
theorem dX12_likely_282 : decode cX12_likely 282 = .ok (.lload 8, 2) := by decide +kernel
theorem dX12_likely_284 : decode cX12_likely 284 = .ok (.ldiv, 1) := by decide +kernel
theorem dX12_likely_285 : decode cX12_likely 285 = .ok (.lreturn, 1) := by decide +kernel
theorem dX12_layMore_0 : decode cX12_layMore 0 = .ok (.aload_n 0, 1) := by decide +kernel
theorem dX12_layMore_1 : decode cX12_layMore 1 = .ok (.invokevirtual 306, 3) := by decide +kernel
theorem dX12_layMore_4 : decode cX12_layMore 4 = .ok (.aload_n 0, 1) := by decide +kernel
theorem dX12_layMore_5 : decode cX12_layMore 5 = .ok (.getfield 75, 3) := by decide +kernel
theorem dX12_layMore_8 : decode cX12_layMore 8 = .ok (.istore 5, 2) := by decide +kernel
theorem dX12_layMore_10 : decode cX12_layMore 10 = .ok (.iload 5, 2) := by decide +kernel
theorem dX12_layMore_12 : decode cX12_layMore 12 = .ok (.iload_n 1, 1) := by decide +kernel
theorem dX12_layMore_13 : decode cX12_layMore 13 = .ok (.if_icmp .le 41, 3) := by decide +kernel
theorem dX12_layMore_16 : decode cX12_layMore 16 = .ok (.aload_n 0, 1) := by decide +kernel
theorem dX12_layMore_17 : decode cX12_layMore 17 = .ok (.getfield 78, 3) := by decide +kernel
theorem dX12_layMore_20 : decode cX12_layMore 20 = .ok (.iload 5, 2) := by decide +kernel
theorem dX12_layMore_22 : decode cX12_layMore 22 = .ok (.aload_n 0, 1) := by decide +kernel
theorem dX12_layMore_23 : decode cX12_layMore 23 = .ok (.getfield 78, 3) := by decide +kernel
theorem dX12_layMore_26 : decode cX12_layMore 26 = .ok (.iload 5, 2) := by decide +kernel
theorem dX12_layMore_28 : decode cX12_layMore 28 = .ok (.iconst 1, 1) := by decide +kernel
theorem dX12_layMore_29 : decode cX12_layMore 29 = .ok (.isub, 1) := by decide +kernel
theorem dX12_layMore_30 : decode cX12_layMore 30 = .ok (.iaload, 1) := by decide +kernel
theorem dX12_layMore_31 : decode cX12_layMore 31 = .ok (.iastore, 1) := by decide +kernel
theorem dX12_layMore_32 : decode cX12_layMore 32 = .ok (.aload_n 0, 1) := by decide +kernel
theorem dX12_layMore_33 : decode cX12_layMore 33 = .ok (.getfield 81, 3) := by decide +kernel
theorem dX12_layMore_36 : decode cX12_layMore 36 = .ok (.iload 5, 2) := by decide +kernel
theorem dX12_layMore_38 : decode cX12_layMore 38 = .ok (.aload_n 0, 1) := by decide +kernel
theorem dX12_layMore_39 : decode cX12_layMore 39 = .ok (.getfield 81, 3) := by decide +kernel
theorem dX12_layMore_42 : decode cX12_layMore 42 = .ok (.iload 5, 2) := by decide +kernel
theorem dX12_layMore_44 : decode cX12_layMore 44 = .ok (.iconst 1, 1) := by decide +kernel
theorem dX12_layMore_45 : decode cX12_layMore 45 = .ok (.isub, 1) := by decide +kernel
theorem dX12_layMore_46 : decode cX12_layMore 46 = .ok (.iaload, 1) := by decide +kernel
theorem dX12_layMore_47 : decode cX12_layMore 47 = .ok (.iastore, 1) := by decide +kernel
theorem dX12_layMore_48 : decode cX12_layMore 48 = .ok (.iinc 5 (-1), 3) := by decide +kernel
theorem dX12_layMore_51 : decode cX12_layMore 51 = .ok (.goto (-41), 3) := by decide +kernel
theorem dX12_layMore_54 : decode cX12_layMore 54 = .ok (.aload_n 0, 1) := by decide +kernel
theorem dX12_layMore_55 : decode cX12_layMore 55 = .ok (.getfield 75, 3) := by decide +kernel
theorem dX12_layMore_58 : decode cX12_layMore 58 = .ok (.iconst 1, 1) := by decide +kernel
theorem dX12_layMore_59 : decode cX12_layMore 59 = .ok (.iadd, 1) := by decide +kernel
theorem dX12_layMore_60 : decode cX12_layMore 60 = .ok (.istore 5, 2) := by decide +kernel
theorem dX12_layMore_62 : decode cX12_layMore 62 = .ok (.iload 5, 2) := by decide +kernel
theorem dX12_layMore_64 : decode cX12_layMore 64 = .ok (.iload_n 1, 1) := by decide +kernel
theorem dX12_layMore_65 : decode cX12_layMore 65 = .ok (.if_icmp .le 25, 3) := by decide +kernel
theorem dX12_layMore_68 : decode cX12_layMore 68 = .ok (.aload_n 0, 1) := by decide +kernel
theorem dX12_layMore_69 : decode cX12_layMore 69 = .ok (.getfield 84, 3) := by decide +kernel
theorem dX12_layMore_72 : decode cX12_layMore 72 = .ok (.iload 5, 2) := by decide +kernel
theorem dX12_layMore_74 : decode cX12_layMore 74 = .ok (.aload_n 0, 1) := by decide +kernel
theorem dX12_layMore_75 : decode cX12_layMore 75 = .ok (.getfield 84, 3) := by decide +kernel
theorem dX12_layMore_78 : decode cX12_layMore 78 = .ok (.iload 5, 2) := by decide +kernel
theorem dX12_layMore_80 : decode cX12_layMore 80 = .ok (.iconst 1, 1) := by decide +kernel
theorem dX12_layMore_81 : decode cX12_layMore 81 = .ok (.isub, 1) := by decide +kernel
theorem dX12_layMore_82 : decode cX12_layMore 82 = .ok (.iaload, 1) := by decide +kernel
theorem dX12_layMore_83 : decode cX12_layMore 83 = .ok (.iastore, 1) := by decide +kernel
theorem dX12_layMore_84 : decode cX12_layMore 84 = .ok (.iinc 5 (-1), 3) := by decide +kernel
theorem dX12_layMore_87 : decode cX12_layMore 87 = .ok (.goto (-25), 3) := by decide +kernel
theorem dX12_layMore_90 : decode cX12_layMore 90 = .ok (.aload_n 0, 1) := by decide +kernel
theorem dX12_layMore_91 : decode cX12_layMore 91 = .ok (.getfield 78, 3) := by decide +kernel
theorem dX12_layMore_94 : decode cX12_layMore 94 = .ok (.iload_n 1, 1) := by decide +kernel
theorem dX12_layMore_95 : decode cX12_layMore 95 = .ok (.iload_n 3, 1) := by decide +kernel
theorem dX12_layMore_96 : decode cX12_layMore 96 = .ok (.iastore, 1) := by decide +kernel
theorem dX12_layMore_97 : decode cX12_layMore 97 = .ok (.aload_n 0, 1) := by decide +kernel
theorem dX12_layMore_98 : decode cX12_layMore 98 = .ok (.getfield 81, 3) := by decide +kernel
theorem dX12_layMore_101 : decode cX12_layMore 101 = .ok (.iload_n 1, 1) := by decide +kernel
theorem dX12_layMore_102 : decode cX12_layMore 102 = .ok (.iload 4, 2) := by decide +kernel
theorem dX12_layMore_104 : decode cX12_layMore 104 = .ok (.iastore, 1) := by decide +kernel
theorem dX12_layMore_105 : decode cX12_layMore 105 = .ok (.aload_n 0, 1) := by decide +kernel
theorem dX12_layMore_106 : decode cX12_layMore 106 = .ok (.getfield 84, 3) := by decide +kernel
theorem dX12_layMore_109 : decode cX12_layMore 109 = .ok (.iload_n 1, 1) := by decide +kernel
theorem dX12_layMore_110 : decode cX12_layMore 110 = .ok (.iload_n 2, 1) := by decide +kernel
theorem dX12_layMore_111 : decode cX12_layMore 111 = .ok (.iastore, 1) := by decide +kernel
theorem dX12_layMore_112 : decode cX12_layMore 112 = .ok (.aload_n 0, 1) := by decide +kernel
theorem dX12_layMore_113 : decode cX12_layMore 113 = .ok (.getfield 84, 3) := by decide +kernel
theorem dX12_layMore_116 : decode cX12_layMore 116 = .ok (.iload_n 1, 1) := by decide +kernel
theorem dX12_layMore_117 : decode cX12_layMore 117 = .ok (.iconst 1, 1) := by decide +kernel
theorem dX12_layMore_118 : decode cX12_layMore 118 = .ok (.iadd, 1) := by decide +kernel
theorem dX12_layMore_119 : decode cX12_layMore 119 = .ok (.dup2, 1) := by decide +kernel
theorem dX12_layMore_120 : decode cX12_layMore 120 = .ok (.iaload, 1) := by decide +kernel
theorem dX12_layMore_121 : decode cX12_layMore 121 = .ok (.iload_n 2, 1) := by decide +kernel
theorem dX12_layMore_122 : decode cX12_layMore 122 = .ok (.isub, 1) := by decide +kernel
theorem dX12_layMore_123 : decode cX12_layMore 123 = .ok (.iastore, 1) := by decide +kernel
theorem dX12_layMore_124 : decode cX12_layMore 124 = .ok (.aload_n 0, 1) := by decide +kernel
theorem dX12_layMore_125 : decode cX12_layMore 125 = .ok (.dup, 1) := by decide +kernel
theorem dX12_layMore_126 : decode cX12_layMore 126 = .ok (.getfield 75, 3) := by decide +kernel
theorem dX12_layMore_129 : decode cX12_layMore 129 = .ok (.iconst 1, 1) := by decide +kernel
theorem dX12_layMore_130 : decode cX12_layMore 130 = .ok (.iadd, 1) := by decide +kernel
theorem dX12_layMore_131 : decode cX12_layMore 131 = .ok (.putfield 75, 3) := by decide +kernel
theorem dX12_layMore_134 : decode cX12_layMore 134 = .ok (.iconst 0, 1) := by decide +kernel
theorem dX12_layMore_135 : decode cX12_layMore 135 = .ok (.istore 5, 2) := by decide +kernel
theorem dX12_layMore_137 : decode cX12_layMore 137 = .ok (.iload 5, 2) := by decide +kernel
theorem dX12_layMore_139 : decode cX12_layMore 139 = .ok (.aload_n 0, 1) := by decide +kernel
theorem dX12_layMore_140 : decode cX12_layMore 140 = .ok (.getfield 75, 3) := by decide +kernel
theorem dX12_layMore_143 : decode cX12_layMore 143 = .ok (.if_icmp .ge 31, 3) := by decide +kernel
theorem dX12_layMore_146 : decode cX12_layMore 146 = .ok (.aload_n 0, 1) := by decide +kernel
theorem dX12_layMore_147 : decode cX12_layMore 147 = .ok (.getfield 87, 3) := by decide +kernel
theorem dX12_layMore_150 : decode cX12_layMore 150 = .ok (.iload 5, 2) := by decide +kernel
theorem dX12_layMore_152 : decode cX12_layMore 152 = .ok (.aload_n 0, 1) := by decide +kernel
theorem dX12_layMore_153 : decode cX12_layMore 153 = .ok (.getfield 78, 3) := by decide +kernel
theorem dX12_layMore_156 : decode cX12_layMore 156 = .ok (.iload 5, 2) := by decide +kernel
theorem dX12_layMore_158 : decode cX12_layMore 158 = .ok (.iaload, 1) := by decide +kernel
theorem dX12_layMore_159 : decode cX12_layMore 159 = .ok (.iastore, 1) := by decide +kernel
theorem dX12_layMore_160 : decode cX12_layMore 160 = .ok (.aload_n 0, 1) := by decide +kernel
theorem dX12_layMore_161 : decode cX12_layMore 161 = .ok (.getfield 90, 3) := by decide +kernel
theorem dX12_layMore_164 : decode cX12_layMore 164 = .ok (.iload 5, 2) := by decide +kernel
theorem dX12_layMore_166 : decode cX12_layMore 166 = .ok (.iconst 0, 1) := by decide +kernel
theorem dX12_layMore_167 : decode cX12_layMore 167 = .ok (.iastore, 1) := by decide +kernel
theorem dX12_layMore_168 : decode cX12_layMore 168 = .ok (.iinc 5 1, 3) := by decide +kernel
theorem dX12_layMore_171 : decode cX12_layMore 171 = .ok (.goto (-34), 3) := by decide +kernel
theorem dX12_layMore_174 : decode cX12_layMore 174 = .ok (.return_, 1) := by decide +kernel
theorem dX12_dig_0 : decode cX12_dig 0 = .ok (.aload_n 0, 1) := by decide +kernel
theorem dX12_dig_1 : decode cX12_dig 1 = .ok (.iload_n 1, 1) := by decide +kernel
theorem dX12_dig_2 : decode cX12_dig 2 = .ok (.invokevirtual 358, 3) := by decide +kernel
theorem dX12_dig_5 : decode cX12_dig 5 = .ok (.ifCond .eq 14, 3) := by decide +kernel
theorem dX12_dig_8 : decode cX12_dig 8 = .ok (.aload_n 0, 1) := by decide +kernel
theorem dX12_dig_9 : decode cX12_dig 9 = .ok (.iload 4, 2) := by decide +kernel
theorem dX12_dig_11 : decode cX12_dig 11 = .ok (.iconst 0, 1) := by decide +kernel
theorem dX12_dig_12 : decode cX12_dig 12 = .ok (.iconst 1, 1) := by decide +kernel
theorem dX12_dig_13 : decode cX12_dig 13 = .ok (.invokevirtual 233, 3) := by decide +kernel
theorem dX12_dig_16 : decode cX12_dig 16 = .ok (.ifCond .ne 5, 3) := by decide +kernel
theorem dX12_dig_19 : decode cX12_dig 19 = .ok (.iconst (-1), 1) := by decide +kernel
theorem dX12_dig_20 : decode cX12_dig 20 = .ok (.ireturn, 1) := by decide +kernel
theorem dX12_dig_21 : decode cX12_dig 21 = .ok (.aload_n 0, 1) := by decide +kernel
theorem dX12_dig_22 : decode cX12_dig 22 = .ok (.iload_n 2, 1) := by decide +kernel
theorem dX12_dig_23 : decode cX12_dig 23 = .ok (.iconst 0, 1) := by decide +kernel
theorem dX12_dig_24 : decode cX12_dig 24 = .ok (.bipush 99, 2) := by decide +kernel
theorem dX12_dig_26 : decode cX12_dig 26 = .ok (.invokevirtual 233, 3) := by decide +kernel
theorem dX12_dig_29 : decode cX12_dig 29 = .ok (.ifCond .eq 14, 3) := by decide +kernel
theorem dX12_dig_32 : decode cX12_dig 32 = .ok (.aload_n 0, 1) := by decide +kernel
theorem dX12_dig_33 : decode cX12_dig 33 = .ok (.iload_n 3, 1) := by decide +kernel
theorem dX12_dig_34 : decode cX12_dig 34 = .ok (.iconst 0, 1) := by decide +kernel
theorem dX12_dig_35 : decode cX12_dig 35 = .ok (.bipush 99, 2) := by decide +kernel
theorem dX12_dig_37 : decode cX12_dig 37 = .ok (.invokevirtual 233, 3) := by decide +kernel
theorem dX12_dig_40 : decode cX12_dig 40 = .ok (.ifCond .ne 6, 3) := by decide +kernel
theorem dX12_dig_43 : decode cX12_dig 43 = .ok (.bipush (-2), 2) := by decide +kernel
theorem dX12_dig_45 : decode cX12_dig 45 = .ok (.ireturn, 1) := by decide +kernel
theorem dX12_dig_46 : decode cX12_dig 46 = .ok (.aload_n 0, 1) := by decide +kernel
theorem dX12_dig_47 : decode cX12_dig 47 = .ok (.getfield 13, 3) := by decide +kernel
theorem dX12_dig_50 : decode cX12_dig 50 = .ok (.ifCond .ge 6, 3) := by decide +kernel
theorem dX12_dig_53 : decode cX12_dig 53 = .ok (.bipush (-3), 2) := by decide +kernel
theorem dX12_dig_55 : decode cX12_dig 55 = .ok (.ireturn, 1) := by decide +kernel
theorem dX12_dig_56 : decode cX12_dig 56 = .ok (.aload_n 0, 1) := by decide +kernel
theorem dX12_dig_57 : decode cX12_dig 57 = .ok (.invokevirtual 306, 3) := by decide +kernel
theorem dX12_dig_60 : decode cX12_dig 60 = .ok (.aload_n 0, 1) := by decide +kernel
theorem dX12_dig_61 : decode cX12_dig 61 = .ok (.getfield 75, 3) := by decide +kernel
theorem dX12_dig_64 : decode cX12_dig 64 = .ok (.istore 5, 2) := by decide +kernel
theorem dX12_dig_66 : decode cX12_dig 66 = .ok (.iload 5, 2) := by decide +kernel
theorem dX12_dig_68 : decode cX12_dig 68 = .ok (.iconst 5, 1) := by decide +kernel
theorem dX12_dig_69 : decode cX12_dig 69 = .ok (.if_icmp .ne 6, 3) := by decide +kernel
theorem dX12_dig_72 : decode cX12_dig 72 = .ok (.bipush (-5), 2) := by decide +kernel
theorem dX12_dig_74 : decode cX12_dig 74 = .ok (.ireturn, 1) := by decide +kernel
theorem dX12_dig_75 : decode cX12_dig 75 = .ok (.bipush (-5), 2) := by decide +kernel
theorem dX12_dig_77 : decode cX12_dig 77 = .ok (.istore 6, 2) := by decide +kernel
theorem dX12_dig_79 : decode cX12_dig 79 = .ok (.bipush (-5), 2) := by decide +kernel
theorem dX12_dig_81 : decode cX12_dig 81 = .ok (.istore 7, 2) := by decide +kernel
theorem dX12_dig_83 : decode cX12_dig 83 = .ok (.iconst 0, 1) := by decide +kernel
theorem dX12_dig_84 : decode cX12_dig 84 = .ok (.istore 8, 2) := by decide +kernel
theorem dX12_dig_86 : decode cX12_dig 86 = .ok (.iload 8, 2) := by decide +kernel
theorem dX12_dig_88 : decode cX12_dig 88 = .ok (.iload 5, 2) := by decide +kernel
theorem dX12_dig_90 : decode cX12_dig 90 = .ok (.if_icmp .gt 106, 3) := by decide +kernel
theorem dX12_dig_93 : decode cX12_dig 93 = .ok (.aload_n 0, 1) := by decide +kernel
theorem dX12_dig_94 : decode cX12_dig 94 = .ok (.invokevirtual 306, 3) := by decide +kernel
theorem dX12_dig_97 : decode cX12_dig 97 = .ok (.aload_n 0, 1) := by decide +kernel
theorem dX12_dig_98 : decode cX12_dig 98 = .ok (.getfield 84, 3) := by decide +kernel
theorem dX12_dig_101 : decode cX12_dig 101 = .ok (.iload 8, 2) := by decide +kernel
theorem dX12_dig_103 : decode cX12_dig 103 = .ok (.iaload, 1) := by decide +kernel
theorem dX12_dig_104 : decode cX12_dig 104 = .ok (.istore 9, 2) := by decide +kernel
theorem dX12_dig_106 : decode cX12_dig 106 = .ok (.iconst 1, 1) := by decide +kernel
theorem dX12_dig_107 : decode cX12_dig 107 = .ok (.istore 10, 2) := by decide +kernel
theorem dX12_dig_109 : decode cX12_dig 109 = .ok (.iload 10, 2) := by decide +kernel
theorem dX12_dig_111 : decode cX12_dig 111 = .ok (.iload 9, 2) := by decide +kernel
theorem dX12_dig_113 : decode cX12_dig 113 = .ok (.if_icmp .ge 77, 3) := by decide +kernel
theorem dX12_dig_116 : decode cX12_dig 116 = .ok (.aload_n 0, 1) := by decide +kernel
theorem dX12_dig_117 : decode cX12_dig 117 = .ok (.iload 8, 2) := by decide +kernel
theorem dX12_dig_119 : decode cX12_dig 119 = .ok (.iload 10, 2) := by decide +kernel
theorem dX12_dig_121 : decode cX12_dig 121 = .ok (.iload_n 2, 1) := by decide +kernel
theorem dX12_dig_122 : decode cX12_dig 122 = .ok (.iload_n 3, 1) := by decide +kernel
theorem dX12_dig_123 : decode cX12_dig 123 = .ok (.invokevirtual 385, 3) := by decide +kernel
theorem dX12_dig_126 : decode cX12_dig 126 = .ok (.aload_n 0, 1) := by decide +kernel
theorem dX12_dig_127 : decode cX12_dig 127 = .ok (.aload_n 0, 1) := by decide +kernel
theorem dX12_dig_128 : decode cX12_dig 128 = .ok (.getfield 114, 3) := by decide +kernel
theorem dX12_dig_131 : decode cX12_dig 131 = .ok (.iload_n 1, 1) := by decide +kernel
theorem dX12_dig_132 : decode cX12_dig 132 = .ok (.iaload, 1) := by decide +kernel
theorem dX12_dig_133 : decode cX12_dig 133 = .ok (.aload_n 0, 1) := by decide +kernel
theorem dX12_dig_134 : decode cX12_dig 134 = .ok (.getfield 117, 3) := by decide +kernel
theorem dX12_dig_137 : decode cX12_dig 137 = .ok (.iload_n 1, 1) := by decide +kernel
theorem dX12_dig_138 : decode cX12_dig 138 = .ok (.iaload, 1) := by decide +kernel
theorem dX12_dig_139 : decode cX12_dig 139 = .ok (.iconst 0, 1) := by decide +kernel
theorem dX12_dig_140 : decode cX12_dig 140 = .ok (.iconst 5, 1) := by decide +kernel
theorem dX12_dig_141 : decode cX12_dig 141 = .ok (.invokevirtual 354, 3) := by decide +kernel
theorem dX12_dig_144 : decode cX12_dig 144 = .ok (.aload_n 0, 1) := by decide +kernel
theorem dX12_dig_145 : decode cX12_dig 145 = .ok (.getfield 162, 3) := by decide +kernel
theorem dX12_dig_148 : decode cX12_dig 148 = .ok (.ifCond .lt 36, 3) := by decide +kernel
theorem dX12_dig_151 : decode cX12_dig 151 = .ok (.iload 7, 2) := by decide +kernel
theorem dX12_dig_153 : decode cX12_dig 153 = .ok (.ifCond .lt 15, 3) := by decide +kernel
theorem dX12_dig_156 : decode cX12_dig 156 = .ok (.aload_n 0, 1) := by decide +kernel
theorem dX12_dig_157 : decode cX12_dig 157 = .ok (.getfield 162, 3) := by decide +kernel
theorem dX12_dig_160 : decode cX12_dig 160 = .ok (.iload 7, 2) := by decide +kernel
theorem dX12_dig_162 : decode cX12_dig 162 = .ok (.if_icmp .lt 6, 3) := by decide +kernel
theorem dX12_dig_165 : decode cX12_dig 165 = .ok (.goto 19, 3) := by decide +kernel
theorem dX12_dig_168 : decode cX12_dig 168 = .ok (.aload_n 0, 1) := by decide +kernel
theorem dX12_dig_169 : decode cX12_dig 169 = .ok (.getfield 162, 3) := by decide +kernel
theorem dX12_dig_172 : decode cX12_dig 172 = .ok (.istore 7, 2) := by decide +kernel
theorem dX12_dig_174 : decode cX12_dig 174 = .ok (.bipush 100, 2) := by decide +kernel
theorem dX12_dig_176 : decode cX12_dig 176 = .ok (.iload 8, 2) := by decide +kernel
theorem dX12_dig_178 : decode cX12_dig 178 = .ok (.imul, 1) := by decide +kernel
theorem dX12_dig_179 : decode cX12_dig 179 = .ok (.iload 10, 2) := by decide +kernel
theorem dX12_dig_181 : decode cX12_dig 181 = .ok (.iadd, 1) := by decide +kernel
theorem dX12_dig_182 : decode cX12_dig 182 = .ok (.istore 6, 2) := by decide +kernel
theorem dX12_dig_184 : decode cX12_dig 184 = .ok (.iinc 10 1, 3) := by decide +kernel
theorem dX12_dig_187 : decode cX12_dig 187 = .ok (.goto (-78), 3) := by decide +kernel
theorem dX12_dig_190 : decode cX12_dig 190 = .ok (.iinc 8 1, 3) := by decide +kernel
theorem dX12_dig_193 : decode cX12_dig 193 = .ok (.goto (-107), 3) := by decide +kernel
theorem dX12_dig_196 : decode cX12_dig 196 = .ok (.iload 4, 2) := by decide +kernel
theorem dX12_dig_198 : decode cX12_dig 198 = .ok (.ifCond .ne 8, 3) := by decide +kernel
theorem dX12_dig_201 : decode cX12_dig 201 = .ok (.iload 6, 2) := by decide +kernel
theorem dX12_dig_203 : decode cX12_dig 203 = .ok (.goto 5, 3) := by decide +kernel
theorem dX12_dig_206 : decode cX12_dig 206 = .ok (.iload 7, 2) := by decide +kernel
theorem dX12_dig_208 : decode cX12_dig 208 = .ok (.ireturn, 1) := by decide +kernel
theorem dX12_judge_0 : decode cX12_judge 0 = .ok (.aload_n 0, 1) := by decide +kernel
theorem dX12_judge_1 : decode cX12_judge 1 = .ok (.iload_n 1, 1) := by decide +kernel
theorem dX12_judge_2 : decode cX12_judge 2 = .ok (.invokevirtual 388, 3) := by decide +kernel
theorem dX12_judge_5 : decode cX12_judge 5 = .ok (.ifCond .eq 11, 3) := by decide +kernel
theorem dX12_judge_8 : decode cX12_judge 8 = .ok (.aload_n 0, 1) := by decide +kernel
theorem dX12_judge_9 : decode cX12_judge 9 = .ok (.iload_n 3, 1) := by decide +kernel
theorem dX12_judge_10 : decode cX12_judge 10 = .ok (.invokevirtual 358, 3) := by decide +kernel
theorem dX12_judge_13 : decode cX12_judge 13 = .ok (.ifCond .ne 5, 3) := by decide +kernel
theorem dX12_judge_16 : decode cX12_judge 16 = .ok (.iconst (-1), 1) := by decide +kernel
theorem dX12_judge_17 : decode cX12_judge 17 = .ok (.ireturn, 1) := by decide +kernel
theorem dX12_judge_18 : decode cX12_judge 18 = .ok (.aload_n 0, 1) := by decide +kernel
theorem dX12_judge_19 : decode cX12_judge 19 = .ok (.getfield 13, 3) := by decide +kernel
theorem dX12_judge_22 : decode cX12_judge 22 = .ok (.ifCond .ge 6, 3) := by decide +kernel
theorem dX12_judge_25 : decode cX12_judge 25 = .ok (.bipush (-3), 2) := by decide +kernel
theorem dX12_judge_27 : decode cX12_judge 27 = .ok (.ireturn, 1) := by decide +kernel
theorem dX12_judge_28 : decode cX12_judge 28 = .ok (.aload_n 0, 1) := by decide +kernel
theorem dX12_judge_29 : decode cX12_judge 29 = .ok (.getfield 220, 3) := by decide +kernel
theorem dX12_judge_32 : decode cX12_judge 32 = .ok (.iload_n 1, 1) := by decide +kernel
theorem dX12_judge_33 : decode cX12_judge 33 = .ok (.iaload, 1) := by decide +kernel
theorem dX12_judge_34 : decode cX12_judge 34 = .ok (.ifCond .lt 16, 3) := by decide +kernel
theorem dX12_judge_37 : decode cX12_judge 37 = .ok (.aload_n 0, 1) := by decide +kernel
theorem dX12_judge_38 : decode cX12_judge 38 = .ok (.getfield 220, 3) := by decide +kernel
theorem dX12_judge_41 : decode cX12_judge 41 = .ok (.iload_n 1, 1) := by decide +kernel
theorem dX12_judge_42 : decode cX12_judge 42 = .ok (.iaload, 1) := by decide +kernel
theorem dX12_judge_43 : decode cX12_judge 43 = .ok (.iconst 2, 1) := by decide +kernel
theorem dX12_judge_44 : decode cX12_judge 44 = .ok (.if_icmp .eq 6, 3) := by decide +kernel
theorem dX12_judge_47 : decode cX12_judge 47 = .ok (.bipush (-12), 2) := by decide +kernel
theorem dX12_judge_49 : decode cX12_judge 49 = .ok (.ireturn, 1) := by decide +kernel
theorem dX12_judge_50 : decode cX12_judge 50 = .ok (.aload_n 0, 1) := by decide +kernel
theorem dX12_judge_51 : decode cX12_judge 51 = .ok (.invokevirtual 306, 3) := by decide +kernel
theorem dX12_judge_54 : decode cX12_judge 54 = .ok (.aload_n 0, 1) := by decide +kernel
theorem dX12_judge_55 : decode cX12_judge 55 = .ok (.aload_n 0, 1) := by decide +kernel
theorem dX12_judge_56 : decode cX12_judge 56 = .ok (.getfield 114, 3) := by decide +kernel
theorem dX12_judge_59 : decode cX12_judge 59 = .ok (.iload_n 3, 1) := by decide +kernel
theorem dX12_judge_60 : decode cX12_judge 60 = .ok (.iaload, 1) := by decide +kernel
theorem dX12_judge_61 : decode cX12_judge 61 = .ok (.invokevirtual 345, 3) := by decide +kernel
theorem dX12_judge_64 : decode cX12_judge 64 = .ok (.aload_n 0, 1) := by decide +kernel
theorem dX12_judge_65 : decode cX12_judge 65 = .ok (.aload_n 0, 1) := by decide +kernel
theorem dX12_judge_66 : decode cX12_judge 66 = .ok (.getfield 117, 3) := by decide +kernel
theorem dX12_judge_69 : decode cX12_judge 69 = .ok (.iload_n 3, 1) := by decide +kernel
theorem dX12_judge_70 : decode cX12_judge 70 = .ok (.iaload, 1) := by decide +kernel
theorem dX12_judge_71 : decode cX12_judge 71 = .ok (.putfield 153, 3) := by decide +kernel
theorem dX12_judge_74 : decode cX12_judge 74 = .ok (.aload_n 0, 1) := by decide +kernel
theorem dX12_judge_75 : decode cX12_judge 75 = .ok (.aload_n 0, 1) := by decide +kernel
theorem dX12_judge_76 : decode cX12_judge 76 = .ok (.getfield 150, 3) := by decide +kernel
theorem dX12_judge_79 : decode cX12_judge 79 = .ok (.putfield 156, 3) := by decide +kernel
theorem dX12_judge_82 : decode cX12_judge 82 = .ok (.iconst 0, 1) := by decide +kernel
theorem dX12_judge_83 : decode cX12_judge 83 = .ok (.istore 4, 2) := by decide +kernel
theorem dX12_judge_85 : decode cX12_judge 85 = .ok (.iload 4, 2) := by decide +kernel
theorem dX12_judge_87 : decode cX12_judge 87 = .ok (.aload_n 0, 1) := by decide +kernel
theorem dX12_judge_88 : decode cX12_judge 88 = .ok (.getfield 75, 3) := by decide +kernel
theorem dX12_judge_91 : decode cX12_judge 91 = .ok (.if_icmp .ge 121, 3) := by decide +kernel
theorem dX12_judge_94 : decode cX12_judge 94 = .ok (.aload_n 0, 1) := by decide +kernel
theorem dX12_judge_95 : decode cX12_judge 95 = .ok (.iload 4, 2) := by decide +kernel
theorem dX12_judge_97 : decode cX12_judge 97 = .ok (.invokevirtual 335, 3) := by decide +kernel
theorem dX12_judge_100 : decode cX12_judge 100 = .ok (.ifCond .ne 6, 3) := by decide +kernel
theorem dX12_judge_103 : decode cX12_judge 103 = .ok (.iload 4, 2) := by decide +kernel
theorem dX12_judge_105 : decode cX12_judge 105 = .ok (.ireturn, 1) := by decide +kernel
theorem dX12_judge_106 : decode cX12_judge 106 = .ok (.aload_n 0, 1) := by decide +kernel
theorem dX12_judge_107 : decode cX12_judge 107 = .ok (.getfield 220, 3) := by decide +kernel
theorem dX12_judge_110 : decode cX12_judge 110 = .ok (.iload_n 1, 1) := by decide +kernel
theorem dX12_judge_111 : decode cX12_judge 111 = .ok (.iaload, 1) := by decide +kernel
theorem dX12_judge_112 : decode cX12_judge 112 = .ok (.ifCond .lt 22, 3) := by decide +kernel
theorem dX12_judge_115 : decode cX12_judge 115 = .ok (.iload_n 2, 1) := by decide +kernel
theorem dX12_judge_116 : decode cX12_judge 116 = .ok (.ifCond .lt 18, 3) := by decide +kernel
theorem dX12_judge_119 : decode cX12_judge 119 = .ok (.iload_n 2, 1) := by decide +kernel
theorem dX12_judge_120 : decode cX12_judge 120 = .ok (.aload_n 0, 1) := by decide +kernel
theorem dX12_judge_121 : decode cX12_judge 121 = .ok (.getfield 223, 3) := by decide +kernel
theorem dX12_judge_124 : decode cX12_judge 124 = .ok (.iload_n 1, 1) := by decide +kernel
theorem dX12_judge_125 : decode cX12_judge 125 = .ok (.iaload, 1) := by decide +kernel
theorem dX12_judge_126 : decode cX12_judge 126 = .ok (.iload 4, 2) := by decide +kernel
theorem dX12_judge_128 : decode cX12_judge 128 = .ok (.isub, 1) := by decide +kernel
theorem dX12_judge_129 : decode cX12_judge 129 = .ok (.iconst 1, 1) := by decide +kernel
theorem dX12_judge_130 : decode cX12_judge 130 = .ok (.isub, 1) := by decide +kernel
theorem dX12_judge_131 : decode cX12_judge 131 = .ok (.if_icmp .le 9, 3) := by decide +kernel
theorem dX12_judge_134 : decode cX12_judge 134 = .ok (.bipush 101, 2) := by decide +kernel
theorem dX12_judge_136 : decode cX12_judge 136 = .ok (.iload 4, 2) := by decide +kernel
theorem dX12_judge_138 : decode cX12_judge 138 = .ok (.iadd, 1) := by decide +kernel
theorem dX12_judge_139 : decode cX12_judge 139 = .ok (.ireturn, 1) := by decide +kernel
theorem dX12_judge_140 : decode cX12_judge 140 = .ok (.aload_n 0, 1) := by decide +kernel
theorem dX12_judge_141 : decode cX12_judge 141 = .ok (.getfield 226, 3) := by decide +kernel
theorem dX12_judge_144 : decode cX12_judge 144 = .ok (.bipush 60, 2) := by decide +kernel
theorem dX12_judge_146 : decode cX12_judge 146 = .ok (.iload_n 1, 1) := by decide +kernel
theorem dX12_judge_147 : decode cX12_judge 147 = .ok (.imul, 1) := by decide +kernel
theorem dX12_judge_148 : decode cX12_judge 148 = .ok (.iload_n 2, 1) := by decide +kernel
theorem dX12_judge_149 : decode cX12_judge 149 = .ok (.iadd, 1) := by decide +kernel
theorem dX12_judge_150 : decode cX12_judge 150 = .ok (.iload 4, 2) := by decide +kernel
theorem dX12_judge_152 : decode cX12_judge 152 = .ok (.iadd, 1) := by decide +kernel
theorem dX12_judge_153 : decode cX12_judge 153 = .ok (.laload, 1) := by decide +kernel
theorem dX12_judge_154 : decode cX12_judge 154 = .ok (.lstore 5, 2) := by decide +kernel
theorem dX12_judge_156 : decode cX12_judge 156 = .ok (.lload 5, 2) := by decide +kernel
theorem dX12_judge_158 : decode cX12_judge 158 = .ok (.lconst 0, 1) := by decide +kernel
theorem dX12_judge_159 : decode cX12_judge 159 = .ok (.lcmp, 1) := by decide +kernel
theorem dX12_judge_160 : decode cX12_judge 160 = .ok (.ifCond .lt 12, 3) := by decide +kernel
theorem dX12_judge_163 : decode cX12_judge 163 = .ok (.lload 5, 2) := by decide +kernel
theorem dX12_judge_165 : decode cX12_judge 165 = .ok (.ldc2_w 391, 3) := by decide +kernel
theorem dX12_judge_168 : decode cX12_judge 168 = .ok (.lcmp, 1) := by decide +kernel
theorem dX12_judge_169 : decode cX12_judge 169 = .ok (.ifCond .le 6, 3) := by decide +kernel
theorem dX12_judge_172 : decode cX12_judge 172 = .ok (.iload 4, 2) := by decide +kernel
theorem dX12_judge_174 : decode cX12_judge 174 = .ok (.ireturn, 1) := by decide +kernel
theorem dX12_judge_175 : decode cX12_judge 175 = .ok (.aload_n 0, 1) := by decide +kernel
theorem dX12_judge_176 : decode cX12_judge 176 = .ok (.iload 4, 2) := by decide +kernel
theorem dX12_judge_178 : decode cX12_judge 178 = .ok (.invokevirtual 338, 3) := by decide +kernel
theorem dX12_judge_181 : decode cX12_judge 181 = .ok (.ifCond .eq 13, 3) := by decide +kernel
theorem dX12_judge_184 : decode cX12_judge 184 = .ok (.aload_n 0, 1) := by decide +kernel
theorem dX12_judge_185 : decode cX12_judge 185 = .ok (.lload 5, 2) := by decide +kernel
theorem dX12_judge_187 : decode cX12_judge 187 = .ok (.l2i, 1) := by decide +kernel
theorem dX12_judge_188 : decode cX12_judge 188 = .ok (.invokevirtual 332, 3) := by decide +kernel
theorem dX12_judge_191 : decode cX12_judge 191 = .ok (.ifCond .ne 8, 3) := by decide +kernel
theorem dX12_judge_194 : decode cX12_judge 194 = .ok (.iload 4, 2) := by decide +kernel
theorem dX12_judge_196 : decode cX12_judge 196 = .ok (.iconst 1, 1) := by decide +kernel
theorem dX12_judge_197 : decode cX12_judge 197 = .ok (.iadd, 1) := by decide +kernel
theorem dX12_judge_198 : decode cX12_judge 198 = .ok (.ireturn, 1) := by decide +kernel
theorem dX12_judge_199 : decode cX12_judge 199 = .ok (.aload_n 0, 1) := by decide +kernel
theorem dX12_judge_200 : decode cX12_judge 200 = .ok (.iload 4, 2) := by decide +kernel
theorem dX12_judge_202 : decode cX12_judge 202 = .ok (.iconst 1, 1) := by decide +kernel
theorem dX12_judge_203 : decode cX12_judge 203 = .ok (.invokevirtual 341, 3) := by decide +kernel
theorem dX12_judge_206 : decode cX12_judge 206 = .ok (.iinc 4 1, 3) := by decide +kernel
theorem dX12_judge_209 : decode cX12_judge 209 = .ok (.goto (-124), 3) := by decide +kernel
theorem dX12_judge_212 : decode cX12_judge 212 = .ok (.aload_n 0, 1) := by decide +kernel
theorem dX12_judge_213 : decode cX12_judge 213 = .ok (.aload_n 0, 1) := by decide +kernel
theorem dX12_judge_214 : decode cX12_judge 214 = .ok (.getfield 75, 3) := by decide +kernel
theorem dX12_judge_217 : decode cX12_judge 217 = .ok (.invokevirtual 335, 3) := by decide +kernel
theorem dX12_judge_220 : decode cX12_judge 220 = .ok (.ifCond .eq 8, 3) := by decide +kernel
theorem dX12_judge_223 : decode cX12_judge 223 = .ok (.bipush (-5), 2) := by decide +kernel
theorem dX12_judge_225 : decode cX12_judge 225 = .ok (.goto 7, 3) := by decide +kernel
theorem dX12_judge_228 : decode cX12_judge 228 = .ok (.aload_n 0, 1) := by decide +kernel
theorem dX12_judge_229 : decode cX12_judge 229 = .ok (.getfield 75, 3) := by decide +kernel
theorem dX12_judge_232 : decode cX12_judge 232 = .ok (.ireturn, 1) := by decide +kernel
theorem dX12_copy_0 : decode cX12_copy 0 = .ok (.iconst 0, 1) := by decide +kernel
theorem dX12_copy_1 : decode cX12_copy 1 = .ok (.istore_n 3, 1) := by decide +kernel
theorem dX12_copy_2 : decode cX12_copy 2 = .ok (.iload_n 3, 1) := by decide +kernel
theorem dX12_copy_3 : decode cX12_copy 3 = .ok (.aload_n 2, 1) := by decide +kernel
theorem dX12_copy_4 : decode cX12_copy 4 = .ok (.arraylength, 1) := by decide +kernel
theorem dX12_copy_5 : decode cX12_copy 5 = .ok (.if_icmp .ge 15, 3) := by decide +kernel
theorem dX12_copy_8 : decode cX12_copy 8 = .ok (.aload_n 2, 1) := by decide +kernel
theorem dX12_copy_9 : decode cX12_copy 9 = .ok (.iload_n 3, 1) := by decide +kernel
theorem dX12_copy_10 : decode cX12_copy 10 = .ok (.aload_n 1, 1) := by decide +kernel
theorem dX12_copy_11 : decode cX12_copy 11 = .ok (.iload_n 3, 1) := by decide +kernel
theorem dX12_copy_12 : decode cX12_copy 12 = .ok (.iaload, 1) := by decide +kernel
theorem dX12_copy_13 : decode cX12_copy 13 = .ok (.iastore, 1) := by decide +kernel
theorem dX12_copy_14 : decode cX12_copy 14 = .ok (.iinc 3 1, 3) := by decide +kernel
theorem dX12_copy_17 : decode cX12_copy 17 = .ok (.goto (-15), 3) := by decide +kernel
theorem dX12_copy_20 : decode cX12_copy 20 = .ok (.return_, 1) := by decide +kernel
theorem dX12_image_0 : decode cX12_image 0 = .ok (.aload_n 0, 1) := by decide +kernel
theorem dX12_image_1 : decode cX12_image 1 = .ok (.iconst 1, 1) := by decide +kernel
theorem dX12_image_2 : decode cX12_image 2 = .ok (.putfield 186, 3) := by decide +kernel
theorem dX12_image_5 : decode cX12_image 5 = .ok (.aload_n 0, 1) := by decide +kernel
theorem dX12_image_6 : decode cX12_image 6 = .ok (.aload_n 0, 1) := by decide +kernel
theorem dX12_image_7 : decode cX12_image 7 = .ok (.getfield 13, 3) := by decide +kernel
theorem dX12_image_10 : decode cX12_image 10 = .ok (.putfield 190, 3) := by decide +kernel
theorem dX12_image_13 : decode cX12_image 13 = .ok (.aload_n 0, 1) := by decide +kernel
theorem dX12_image_14 : decode cX12_image 14 = .ok (.aload_n 0, 1) := by decide +kernel
theorem dX12_image_15 : decode cX12_image 15 = .ok (.getfield 165, 3) := by decide +kernel
theorem dX12_image_18 : decode cX12_image 18 = .ok (.putfield 193, 3) := by decide +kernel
theorem dX12_image_21 : decode cX12_image 21 = .ok (.aload_n 0, 1) := by decide +kernel
theorem dX12_image_22 : decode cX12_image 22 = .ok (.aload_n 0, 1) := by decide +kernel
theorem dX12_image_23 : decode cX12_image 23 = .ok (.getfield 99, 3) := by decide +kernel
theorem dX12_image_26 : decode cX12_image 26 = .ok (.putfield 196, 3) := by decide +kernel
theorem dX12_image_29 : decode cX12_image 29 = .ok (.aload_n 0, 1) := by decide +kernel
theorem dX12_image_30 : decode cX12_image 30 = .ok (.aload_n 0, 1) := by decide +kernel
theorem dX12_image_31 : decode cX12_image 31 = .ok (.getfield 66, 3) := by decide +kernel
theorem dX12_image_34 : decode cX12_image 34 = .ok (.aload_n 0, 1) := by decide +kernel
theorem dX12_image_35 : decode cX12_image 35 = .ok (.getfield 199, 3) := by decide +kernel
theorem dX12_image_38 : decode cX12_image 38 = .ok (.invokevirtual 393, 3) := by decide +kernel
theorem dX12_image_41 : decode cX12_image 41 = .ok (.aload_n 0, 1) := by decide +kernel
theorem dX12_image_42 : decode cX12_image 42 = .ok (.aload_n 0, 1) := by decide +kernel
theorem dX12_image_43 : decode cX12_image 43 = .ok (.getfield 69, 3) := by decide +kernel
theorem dX12_image_46 : decode cX12_image 46 = .ok (.aload_n 0, 1) := by decide +kernel
theorem dX12_image_47 : decode cX12_image 47 = .ok (.getfield 202, 3) := by decide +kernel
theorem dX12_image_50 : decode cX12_image 50 = .ok (.invokevirtual 393, 3) := by decide +kernel
theorem dX12_image_53 : decode cX12_image 53 = .ok (.aload_n 0, 1) := by decide +kernel
theorem dX12_image_54 : decode cX12_image 54 = .ok (.aload_n 0, 1) := by decide +kernel
theorem dX12_image_55 : decode cX12_image 55 = .ok (.getfield 72, 3) := by decide +kernel
theorem dX12_image_58 : decode cX12_image 58 = .ok (.aload_n 0, 1) := by decide +kernel
theorem dX12_image_59 : decode cX12_image 59 = .ok (.getfield 205, 3) := by decide +kernel
theorem dX12_image_62 : decode cX12_image 62 = .ok (.invokevirtual 393, 3) := by decide +kernel
theorem dX12_image_65 : decode cX12_image 65 = .ok (.aload_n 0, 1) := by decide +kernel
theorem dX12_image_66 : decode cX12_image 66 = .ok (.aload_n 0, 1) := by decide +kernel
theorem dX12_image_67 : decode cX12_image 67 = .ok (.getfield 168, 3) := by decide +kernel
theorem dX12_image_70 : decode cX12_image 70 = .ok (.aload_n 0, 1) := by decide +kernel
theorem dX12_image_71 : decode cX12_image 71 = .ok (.getfield 208, 3) := by decide +kernel
theorem dX12_image_74 : decode cX12_image 74 = .ok (.invokevirtual 393, 3) := by decide +kernel
theorem dX12_image_77 : decode cX12_image 77 = .ok (.aload_n 0, 1) := by decide +kernel
theorem dX12_image_78 : decode cX12_image 78 = .ok (.aload_n 0, 1) := by decide +kernel
theorem dX12_image_79 : decode cX12_image 79 = .ok (.getfield 123, 3) := by decide +kernel
theorem dX12_image_82 : decode cX12_image 82 = .ok (.aload_n 0, 1) := by decide +kernel
theorem dX12_image_83 : decode cX12_image 83 = .ok (.getfield 211, 3) := by decide +kernel
theorem dX12_image_86 : decode cX12_image 86 = .ok (.invokevirtual 393, 3) := by decide +kernel
theorem dX12_image_89 : decode cX12_image 89 = .ok (.aload_n 0, 1) := by decide +kernel
theorem dX12_image_90 : decode cX12_image 90 = .ok (.getfield 165, 3) := by decide +kernel
theorem dX12_image_93 : decode cX12_image 93 = .ok (.ireturn, 1) := by decide +kernel
theorem dX12_undo_0 : decode cX12_undo 0 = .ok (.aload_n 0, 1) := by decide +kernel
theorem dX12_undo_1 : decode cX12_undo 1 = .ok (.getfield 186, 3) := by decide +kernel
theorem dX12_undo_4 : decode cX12_undo 4 = .ok (.ifCond .ne 6, 3) := by decide +kernel
theorem dX12_undo_7 : decode cX12_undo 7 = .ok (.bipush (-3), 2) := by decide +kernel
theorem dX12_undo_9 : decode cX12_undo 9 = .ok (.ireturn, 1) := by decide +kernel
theorem dX12_undo_10 : decode cX12_undo 10 = .ok (.aload_n 0, 1) := by decide +kernel
theorem dX12_undo_11 : decode cX12_undo 11 = .ok (.aload_n 0, 1) := by decide +kernel
theorem dX12_undo_12 : decode cX12_undo 12 = .ok (.getfield 190, 3) := by decide +kernel
theorem dX12_undo_15 : decode cX12_undo 15 = .ok (.putfield 13, 3) := by decide +kernel
theorem dX12_undo_18 : decode cX12_undo 18 = .ok (.aload_n 0, 1) := by decide +kernel
theorem dX12_undo_19 : decode cX12_undo 19 = .ok (.aload_n 0, 1) := by decide +kernel
theorem dX12_undo_20 : decode cX12_undo 20 = .ok (.getfield 193, 3) := by decide +kernel
theorem dX12_undo_23 : decode cX12_undo 23 = .ok (.putfield 165, 3) := by decide +kernel
theorem dX12_undo_26 : decode cX12_undo 26 = .ok (.aload_n 0, 1) := by decide +kernel
theorem dX12_undo_27 : decode cX12_undo 27 = .ok (.aload_n 0, 1) := by decide +kernel
theorem dX12_undo_28 : decode cX12_undo 28 = .ok (.getfield 196, 3) := by decide +kernel
theorem dX12_undo_31 : decode cX12_undo 31 = .ok (.putfield 99, 3) := by decide +kernel
theorem dX12_undo_34 : decode cX12_undo 34 = .ok (.aload_n 0, 1) := by decide +kernel
theorem dX12_undo_35 : decode cX12_undo 35 = .ok (.aload_n 0, 1) := by decide +kernel
theorem dX12_undo_36 : decode cX12_undo 36 = .ok (.getfield 199, 3) := by decide +kernel
theorem dX12_undo_39 : decode cX12_undo 39 = .ok (.aload_n 0, 1) := by decide +kernel
theorem dX12_undo_40 : decode cX12_undo 40 = .ok (.getfield 66, 3) := by decide +kernel
theorem dX12_undo_43 : decode cX12_undo 43 = .ok (.invokevirtual 393, 3) := by decide +kernel
theorem dX12_undo_46 : decode cX12_undo 46 = .ok (.aload_n 0, 1) := by decide +kernel
theorem dX12_undo_47 : decode cX12_undo 47 = .ok (.aload_n 0, 1) := by decide +kernel
theorem dX12_undo_48 : decode cX12_undo 48 = .ok (.getfield 202, 3) := by decide +kernel
theorem dX12_undo_51 : decode cX12_undo 51 = .ok (.aload_n 0, 1) := by decide +kernel
theorem dX12_undo_52 : decode cX12_undo 52 = .ok (.getfield 69, 3) := by decide +kernel
theorem dX12_undo_55 : decode cX12_undo 55 = .ok (.invokevirtual 393, 3) := by decide +kernel
theorem dX12_undo_58 : decode cX12_undo 58 = .ok (.aload_n 0, 1) := by decide +kernel
theorem dX12_undo_59 : decode cX12_undo 59 = .ok (.aload_n 0, 1) := by decide +kernel
theorem dX12_undo_60 : decode cX12_undo 60 = .ok (.getfield 205, 3) := by decide +kernel
theorem dX12_undo_63 : decode cX12_undo 63 = .ok (.aload_n 0, 1) := by decide +kernel
theorem dX12_undo_64 : decode cX12_undo 64 = .ok (.getfield 72, 3) := by decide +kernel
theorem dX12_undo_67 : decode cX12_undo 67 = .ok (.invokevirtual 393, 3) := by decide +kernel
theorem dX12_undo_70 : decode cX12_undo 70 = .ok (.aload_n 0, 1) := by decide +kernel
theorem dX12_undo_71 : decode cX12_undo 71 = .ok (.aload_n 0, 1) := by decide +kernel
theorem dX12_undo_72 : decode cX12_undo 72 = .ok (.getfield 208, 3) := by decide +kernel
theorem dX12_undo_75 : decode cX12_undo 75 = .ok (.aload_n 0, 1) := by decide +kernel
theorem dX12_undo_76 : decode cX12_undo 76 = .ok (.getfield 168, 3) := by decide +kernel
theorem dX12_undo_79 : decode cX12_undo 79 = .ok (.invokevirtual 393, 3) := by decide +kernel
theorem dX12_undo_82 : decode cX12_undo 82 = .ok (.aload_n 0, 1) := by decide +kernel
theorem dX12_undo_83 : decode cX12_undo 83 = .ok (.aload_n 0, 1) := by decide +kernel
theorem dX12_undo_84 : decode cX12_undo 84 = .ok (.getfield 211, 3) := by decide +kernel
theorem dX12_undo_87 : decode cX12_undo 87 = .ok (.aload_n 0, 1) := by decide +kernel
theorem dX12_undo_88 : decode cX12_undo 88 = .ok (.getfield 123, 3) := by decide +kernel
theorem dX12_undo_91 : decode cX12_undo 91 = .ok (.invokevirtual 393, 3) := by decide +kernel
theorem dX12_undo_94 : decode cX12_undo 94 = .ok (.aload_n 0, 1) := by decide +kernel
theorem dX12_undo_95 : decode cX12_undo 95 = .ok (.getfield 165, 3) := by decide +kernel
theorem dX12_undo_98 : decode cX12_undo 98 = .ok (.ireturn, 1) := by decide +kernel
theorem dX12_body_0 : decode cX12_body 0 = .ok (.aload_n 0, 1) := by decide +kernel
theorem dX12_body_1 : decode cX12_body 1 = .ok (.getfield 214, 3) := by decide +kernel
theorem dX12_body_4 : decode cX12_body 4 = .ok (.bipush 20, 2) := by decide +kernel
theorem dX12_body_6 : decode cX12_body 6 = .ok (.if_icmp .ge 13, 3) := by decide +kernel
theorem dX12_body_9 : decode cX12_body 9 = .ok (.aload_n 0, 1) := by decide +kernel
theorem dX12_body_10 : decode cX12_body 10 = .ok (.getfield 217, 3) := by decide +kernel
theorem dX12_body_13 : decode cX12_body 13 = .ok (.aload_n 0, 1) := by decide +kernel
theorem dX12_body_14 : decode cX12_body 14 = .ok (.getfield 214, 3) := by decide +kernel
theorem dX12_body_17 : decode cX12_body 17 = .ok (.iload_n 1, 1) := by decide +kernel
theorem dX12_body_18 : decode cX12_body 18 = .ok (.iastore, 1) := by decide +kernel
theorem dX12_body_19 : decode cX12_body 19 = .ok (.aload_n 0, 1) := by decide +kernel
theorem dX12_body_20 : decode cX12_body 20 = .ok (.dup, 1) := by decide +kernel
theorem dX12_body_21 : decode cX12_body 21 = .ok (.getfield 214, 3) := by decide +kernel
theorem dX12_body_24 : decode cX12_body 24 = .ok (.iconst 1, 1) := by decide +kernel
theorem dX12_body_25 : decode cX12_body 25 = .ok (.iadd, 1) := by decide +kernel
theorem dX12_body_26 : decode cX12_body 26 = .ok (.putfield 214, 3) := by decide +kernel
theorem dX12_body_29 : decode cX12_body 29 = .ok (.return_, 1) := by decide +kernel
theorem dX12_plainStands_0 : decode cX12_plainStands 0 = .ok (.aload_n 0, 1) := by decide +kernel
theorem dX12_plainStands_1 : decode cX12_plainStands 1 = .ok (.bipush 10, 2) := by decide +kernel
theorem dX12_plainStands_3 : decode cX12_plainStands 3 = .ok (.invokevirtual 397, 3) := by decide +kernel
theorem dX12_plainStands_6 : decode cX12_plainStands 6 = .ok (.iload_n 2, 1) := by decide +kernel
theorem dX12_plainStands_7 : decode cX12_plainStands 7 = .ok (.iload_n 1, 1) := by decide +kernel
theorem dX12_plainStands_8 : decode cX12_plainStands 8 = .ok (.iadd, 1) := by decide +kernel
theorem dX12_plainStands_9 : decode cX12_plainStands 9 = .ok (.ireturn, 1) := by decide +kernel
theorem dX12_nightStands_0 : decode cX12_nightStands 0 = .ok (.aload_n 0, 1) := by decide +kernel
theorem dX12_nightStands_1 : decode cX12_nightStands 1 = .ok (.bipush 30, 2) := by decide +kernel
theorem dX12_nightStands_3 : decode cX12_nightStands 3 = .ok (.invokevirtual 397, 3) := by decide +kernel
theorem dX12_nightStands_6 : decode cX12_nightStands 6 = .ok (.aload_n 0, 1) := by decide +kernel
theorem dX12_nightStands_7 : decode cX12_nightStands 7 = .ok (.iload_n 1, 1) := by decide +kernel
theorem dX12_nightStands_8 : decode cX12_nightStands 8 = .ok (.iload_n 2, 1) := by decide +kernel
theorem dX12_nightStands_9 : decode cX12_nightStands 9 = .ok (.iconst 3, 1) := by decide +kernel
theorem dX12_nightStands_10 : decode cX12_nightStands 10 = .ok (.imul, 1) := by decide +kernel
theorem dX12_nightStands_11 : decode cX12_nightStands 11 = .ok (.invokevirtual 400, 3) := by decide +kernel
theorem dX12_nightStands_14 : decode cX12_nightStands 14 = .ok (.ireturn, 1) := by decide +kernel
theorem dX12_standsAct_0 : decode cX12_standsAct 0 = .ok (.aload_n 0, 1) := by decide +kernel
theorem dX12_standsAct_1 : decode cX12_standsAct 1 = .ok (.getfield 102, 3) := by decide +kernel
theorem dX12_standsAct_4 : decode cX12_standsAct 4 = .ok (.iload_n 1, 1) := by decide +kernel
theorem dX12_standsAct_5 : decode cX12_standsAct 5 = .ok (.iaload, 1) := by decide +kernel
theorem dX12_standsAct_6 : decode cX12_standsAct 6 = .ok (.tableswitch 75 2 6 #[34, 75, 41, 75, 55], 34) := by decide +kernel
theorem dX12_standsAct_40 : decode cX12_standsAct 40 = .ok (.aload_n 0, 1) := by decide +kernel
theorem dX12_standsAct_41 : decode cX12_standsAct 41 = .ok (.iload_n 1, 1) := by decide +kernel
theorem dX12_standsAct_42 : decode cX12_standsAct 42 = .ok (.iload_n 2, 1) := by decide +kernel
theorem dX12_standsAct_43 : decode cX12_standsAct 43 = .ok (.invokevirtual 403, 3) := by decide +kernel
theorem dX12_standsAct_46 : decode cX12_standsAct 46 = .ok (.ireturn, 1) := by decide +kernel
theorem dX12_standsAct_47 : decode cX12_standsAct 47 = .ok (.aload_n 0, 1) := by decide +kernel
theorem dX12_standsAct_48 : decode cX12_standsAct 48 = .ok (.bipush 50, 2) := by decide +kernel
theorem dX12_standsAct_50 : decode cX12_standsAct 50 = .ok (.invokevirtual 397, 3) := by decide +kernel
theorem dX12_standsAct_53 : decode cX12_standsAct 53 = .ok (.aload_n 0, 1) := by decide +kernel
theorem dX12_standsAct_54 : decode cX12_standsAct 54 = .ok (.iload_n 1, 1) := by decide +kernel
theorem dX12_standsAct_55 : decode cX12_standsAct 55 = .ok (.iload_n 2, 1) := by decide +kernel
theorem dX12_standsAct_56 : decode cX12_standsAct 56 = .ok (.invokevirtual 400, 3) := by decide +kernel
theorem dX12_standsAct_59 : decode cX12_standsAct 59 = .ok (.ineg, 1) := by decide +kernel
theorem dX12_standsAct_60 : decode cX12_standsAct 60 = .ok (.ireturn, 1) := by decide +kernel
theorem dX12_standsAct_61 : decode cX12_standsAct 61 = .ok (.aload_n 0, 1) := by decide +kernel
theorem dX12_standsAct_62 : decode cX12_standsAct 62 = .ok (.bipush 71, 2) := by decide +kernel
theorem dX12_standsAct_64 : decode cX12_standsAct 64 = .ok (.invokevirtual 397, 3) := by decide +kernel
theorem dX12_standsAct_67 : decode cX12_standsAct 67 = .ok (.aload_n 0, 1) := by decide +kernel
theorem dX12_standsAct_68 : decode cX12_standsAct 68 = .ok (.iload_n 1, 1) := by decide +kernel
theorem dX12_standsAct_69 : decode cX12_standsAct 69 = .ok (.iload_n 2, 1) := by decide +kernel
theorem dX12_standsAct_70 : decode cX12_standsAct 70 = .ok (.invokevirtual 403, 3) := by decide +kernel
theorem dX12_standsAct_73 : decode cX12_standsAct 73 = .ok (.aload_n 0, 1) := by decide +kernel
theorem dX12_standsAct_74 : decode cX12_standsAct 74 = .ok (.getfield 105, 3) := by decide +kernel
theorem dX12_standsAct_77 : decode cX12_standsAct 77 = .ok (.iload_n 1, 1) := by decide +kernel
theorem dX12_standsAct_78 : decode cX12_standsAct 78 = .ok (.iaload, 1) := by decide +kernel
theorem dX12_standsAct_79 : decode cX12_standsAct 79 = .ok (.ixor, 1) := by decide +kernel
theorem dX12_standsAct_80 : decode cX12_standsAct 80 = .ok (.ireturn, 1) := by decide +kernel
theorem dX12_standsAct_81 : decode cX12_standsAct 81 = .ok (.aload_n 0, 1) := by decide +kernel
theorem dX12_standsAct_82 : decode cX12_standsAct 82 = .ok (.iload_n 1, 1) := by decide +kernel
theorem dX12_standsAct_83 : decode cX12_standsAct 83 = .ok (.iload_n 2, 1) := by decide +kernel
theorem dX12_standsAct_84 : decode cX12_standsAct 84 = .ok (.invokevirtual 400, 3) := by decide +kernel
theorem dX12_standsAct_87 : decode cX12_standsAct 87 = .ok (.ireturn, 1) := by decide +kernel
theorem dX12_plainDraws_0 : decode cX12_plainDraws 0 = .ok (.aload_n 0, 1) := by decide +kernel
theorem dX12_plainDraws_1 : decode cX12_plainDraws 1 = .ok (.bipush 11, 2) := by decide +kernel
theorem dX12_plainDraws_3 : decode cX12_plainDraws 3 = .ok (.invokevirtual 397, 3) := by decide +kernel
theorem dX12_plainDraws_6 : decode cX12_plainDraws 6 = .ok (.aload_n 0, 1) := by decide +kernel
theorem dX12_plainDraws_7 : decode cX12_plainDraws 7 = .ok (.iload_n 1, 1) := by decide +kernel
theorem dX12_plainDraws_8 : decode cX12_plainDraws 8 = .ok (.iload_n 2, 1) := by decide +kernel
theorem dX12_plainDraws_9 : decode cX12_plainDraws 9 = .ok (.invokevirtual 406, 3) := by decide +kernel
theorem dX12_plainDraws_12 : decode cX12_plainDraws 12 = .ok (.aload_n 0, 1) := by decide +kernel
theorem dX12_plainDraws_13 : decode cX12_plainDraws 13 = .ok (.getfield 105, 3) := by decide +kernel
theorem dX12_plainDraws_16 : decode cX12_plainDraws 16 = .ok (.iload_n 1, 1) := by decide +kernel
theorem dX12_plainDraws_17 : decode cX12_plainDraws 17 = .ok (.iaload, 1) := by decide +kernel
theorem dX12_plainDraws_18 : decode cX12_plainDraws 18 = .ok (.isub, 1) := by decide +kernel
theorem dX12_plainDraws_19 : decode cX12_plainDraws 19 = .ok (.ireturn, 1) := by decide +kernel
theorem dX12_waitDraws_0 : decode cX12_waitDraws 0 = .ok (.aload_n 0, 1) := by decide +kernel
theorem dX12_waitDraws_1 : decode cX12_waitDraws 1 = .ok (.bipush 20, 2) := by decide +kernel
theorem dX12_waitDraws_3 : decode cX12_waitDraws 3 = .ok (.invokevirtual 397, 3) := by decide +kernel
theorem dX12_waitDraws_6 : decode cX12_waitDraws 6 = .ok (.aload_n 0, 1) := by decide +kernel
theorem dX12_waitDraws_7 : decode cX12_waitDraws 7 = .ok (.iload_n 1, 1) := by decide +kernel
theorem dX12_waitDraws_8 : decode cX12_waitDraws 8 = .ok (.iload_n 2, 1) := by decide +kernel
theorem dX12_waitDraws_9 : decode cX12_waitDraws 9 = .ok (.invokevirtual 409, 3) := by decide +kernel
theorem dX12_waitDraws_12 : decode cX12_waitDraws 12 = .ok (.bipush 6, 2) := by decide +kernel
theorem dX12_waitDraws_14 : decode cX12_waitDraws 14 = .ok (.ixor, 1) := by decide +kernel
theorem dX12_waitDraws_15 : decode cX12_waitDraws 15 = .ok (.ireturn, 1) := by decide +kernel
theorem dX12_drawsAct_0 : decode cX12_drawsAct 0 = .ok (.aload_n 0, 1) := by decide +kernel
theorem dX12_drawsAct_1 : decode cX12_drawsAct 1 = .ok (.getfield 102, 3) := by decide +kernel
theorem dX12_drawsAct_4 : decode cX12_drawsAct 4 = .ok (.iload_n 1, 1) := by decide +kernel
theorem dX12_drawsAct_5 : decode cX12_drawsAct 5 = .ok (.iaload, 1) := by decide +kernel
theorem dX12_drawsAct_6 : decode cX12_drawsAct 6 = .ok (.tableswitch 82 1 6 #[38, 82, 82, 45, 38, 60], 38) := by decide +kernel
theorem dX12_drawsAct_44 : decode cX12_drawsAct 44 = .ok (.aload_n 0, 1) := by decide +kernel
theorem dX12_drawsAct_45 : decode cX12_drawsAct 45 = .ok (.iload_n 1, 1) := by decide +kernel
theorem dX12_drawsAct_46 : decode cX12_drawsAct 46 = .ok (.iload_n 2, 1) := by decide +kernel
theorem dX12_drawsAct_47 : decode cX12_drawsAct 47 = .ok (.invokevirtual 412, 3) := by decide +kernel
theorem dX12_drawsAct_50 : decode cX12_drawsAct 50 = .ok (.ireturn, 1) := by decide +kernel
theorem dX12_drawsAct_51 : decode cX12_drawsAct 51 = .ok (.aload_n 0, 1) := by decide +kernel
theorem dX12_drawsAct_52 : decode cX12_drawsAct 52 = .ok (.bipush 51, 2) := by decide +kernel
theorem dX12_drawsAct_54 : decode cX12_drawsAct 54 = .ok (.invokevirtual 397, 3) := by decide +kernel
theorem dX12_drawsAct_57 : decode cX12_drawsAct 57 = .ok (.aload_n 0, 1) := by decide +kernel
theorem dX12_drawsAct_58 : decode cX12_drawsAct 58 = .ok (.iload_n 1, 1) := by decide +kernel
theorem dX12_drawsAct_59 : decode cX12_drawsAct 59 = .ok (.iload_n 2, 1) := by decide +kernel
theorem dX12_drawsAct_60 : decode cX12_drawsAct 60 = .ok (.iconst 1, 1) := by decide +kernel
theorem dX12_drawsAct_61 : decode cX12_drawsAct 61 = .ok (.iadd, 1) := by decide +kernel
theorem dX12_drawsAct_62 : decode cX12_drawsAct 62 = .ok (.invokevirtual 412, 3) := by decide +kernel
theorem dX12_drawsAct_65 : decode cX12_drawsAct 65 = .ok (.ireturn, 1) := by decide +kernel
theorem dX12_drawsAct_66 : decode cX12_drawsAct 66 = .ok (.aload_n 0, 1) := by decide +kernel
theorem dX12_drawsAct_67 : decode cX12_drawsAct 67 = .ok (.bipush 70, 2) := by decide +kernel
theorem dX12_drawsAct_69 : decode cX12_drawsAct 69 = .ok (.invokevirtual 397, 3) := by decide +kernel
theorem dX12_drawsAct_72 : decode cX12_drawsAct 72 = .ok (.aload_n 0, 1) := by decide +kernel
theorem dX12_drawsAct_73 : decode cX12_drawsAct 73 = .ok (.iload_n 1, 1) := by decide +kernel
theorem dX12_drawsAct_74 : decode cX12_drawsAct 74 = .ok (.iload_n 2, 1) := by decide +kernel
theorem dX12_drawsAct_75 : decode cX12_drawsAct 75 = .ok (.invokevirtual 409, 3) := by decide +kernel
theorem dX12_drawsAct_78 : decode cX12_drawsAct 78 = .ok (.istore_n 3, 1) := by decide +kernel
theorem dX12_drawsAct_79 : decode cX12_drawsAct 79 = .ok (.iload_n 3, 1) := by decide +kernel
theorem dX12_drawsAct_80 : decode cX12_drawsAct 80 = .ok (.aload_n 0, 1) := by decide +kernel
theorem dX12_drawsAct_81 : decode cX12_drawsAct 81 = .ok (.iload_n 1, 1) := by decide +kernel
theorem dX12_drawsAct_82 : decode cX12_drawsAct 82 = .ok (.iconst 2, 1) := by decide +kernel
theorem dX12_drawsAct_83 : decode cX12_drawsAct 83 = .ok (.invokevirtual 403, 3) := by decide +kernel
theorem dX12_drawsAct_86 : decode cX12_drawsAct 86 = .ok (.iadd, 1) := by decide +kernel
theorem dX12_drawsAct_87 : decode cX12_drawsAct 87 = .ok (.ireturn, 1) := by decide +kernel
theorem dX12_drawsAct_88 : decode cX12_drawsAct 88 = .ok (.aload_n 0, 1) := by decide +kernel
theorem dX12_drawsAct_89 : decode cX12_drawsAct 89 = .ok (.iload_n 1, 1) := by decide +kernel
theorem dX12_drawsAct_90 : decode cX12_drawsAct 90 = .ok (.iload_n 2, 1) := by decide +kernel
theorem dX12_drawsAct_91 : decode cX12_drawsAct 91 = .ok (.invokevirtual 409, 3) := by decide +kernel
theorem dX12_drawsAct_94 : decode cX12_drawsAct 94 = .ok (.ireturn, 1) := by decide +kernel
theorem dX12_plainTells_0 : decode cX12_plainTells 0 = .ok (.aload_n 0, 1) := by decide +kernel
theorem dX12_plainTells_1 : decode cX12_plainTells 1 = .ok (.bipush 12, 2) := by decide +kernel
theorem dX12_plainTells_3 : decode cX12_plainTells 3 = .ok (.invokevirtual 397, 3) := by decide +kernel
theorem dX12_plainTells_6 : decode cX12_plainTells 6 = .ok (.aload_n 0, 1) := by decide +kernel
theorem dX12_plainTells_7 : decode cX12_plainTells 7 = .ok (.iload_n 1, 1) := by decide +kernel
theorem dX12_plainTells_8 : decode cX12_plainTells 8 = .ok (.iload_n 2, 1) := by decide +kernel
theorem dX12_plainTells_9 : decode cX12_plainTells 9 = .ok (.invokevirtual 415, 3) := by decide +kernel
theorem dX12_plainTells_12 : decode cX12_plainTells 12 = .ok (.iconst 2, 1) := by decide +kernel
theorem dX12_plainTells_13 : decode cX12_plainTells 13 = .ok (.imul, 1) := by decide +kernel
theorem dX12_plainTells_14 : decode cX12_plainTells 14 = .ok (.ireturn, 1) := by decide +kernel
theorem dX12_tellsAct_0 : decode cX12_tellsAct 0 = .ok (.aload_n 0, 1) := by decide +kernel
theorem dX12_tellsAct_1 : decode cX12_tellsAct 1 = .ok (.getfield 102, 3) := by decide +kernel
theorem dX12_tellsAct_4 : decode cX12_tellsAct 4 = .ok (.iload_n 1, 1) := by decide +kernel
theorem dX12_tellsAct_5 : decode cX12_tellsAct 5 = .ok (.iaload, 1) := by decide +kernel
theorem dX12_tellsAct_6 : decode cX12_tellsAct 6 = .ok (.lookupswitch 63 #[(3, 26), (5, 48)], 26) := by decide +kernel
theorem dX12_tellsAct_32 : decode cX12_tellsAct 32 = .ok (.aload_n 0, 1) := by decide +kernel
theorem dX12_tellsAct_33 : decode cX12_tellsAct 33 = .ok (.bipush 40, 2) := by decide +kernel
theorem dX12_tellsAct_35 : decode cX12_tellsAct 35 = .ok (.invokevirtual 397, 3) := by decide +kernel
theorem dX12_tellsAct_38 : decode cX12_tellsAct 38 = .ok (.aload_n 0, 1) := by decide +kernel
theorem dX12_tellsAct_39 : decode cX12_tellsAct 39 = .ok (.iload_n 1, 1) := by decide +kernel
theorem dX12_tellsAct_40 : decode cX12_tellsAct 40 = .ok (.iload_n 2, 1) := by decide +kernel
theorem dX12_tellsAct_41 : decode cX12_tellsAct 41 = .ok (.invokevirtual 418, 3) := by decide +kernel
theorem dX12_tellsAct_44 : decode cX12_tellsAct 44 = .ok (.istore_n 3, 1) := by decide +kernel
theorem dX12_tellsAct_45 : decode cX12_tellsAct 45 = .ok (.iload_n 3, 1) := by decide +kernel
theorem dX12_tellsAct_46 : decode cX12_tellsAct 46 = .ok (.aload_n 0, 1) := by decide +kernel
theorem dX12_tellsAct_47 : decode cX12_tellsAct 47 = .ok (.iload_n 1, 1) := by decide +kernel
theorem dX12_tellsAct_48 : decode cX12_tellsAct 48 = .ok (.iconst 1, 1) := by decide +kernel
theorem dX12_tellsAct_49 : decode cX12_tellsAct 49 = .ok (.invokevirtual 415, 3) := by decide +kernel
theorem dX12_tellsAct_52 : decode cX12_tellsAct 52 = .ok (.iadd, 1) := by decide +kernel
theorem dX12_tellsAct_53 : decode cX12_tellsAct 53 = .ok (.ireturn, 1) := by decide +kernel
theorem dX12_tellsAct_54 : decode cX12_tellsAct 54 = .ok (.aload_n 0, 1) := by decide +kernel
theorem dX12_tellsAct_55 : decode cX12_tellsAct 55 = .ok (.bipush 60, 2) := by decide +kernel
theorem dX12_tellsAct_57 : decode cX12_tellsAct 57 = .ok (.invokevirtual 397, 3) := by decide +kernel
theorem dX12_tellsAct_60 : decode cX12_tellsAct 60 = .ok (.aload_n 0, 1) := by decide +kernel
theorem dX12_tellsAct_61 : decode cX12_tellsAct 61 = .ok (.iload_n 1, 1) := by decide +kernel
theorem dX12_tellsAct_62 : decode cX12_tellsAct 62 = .ok (.iload_n 2, 1) := by decide +kernel
theorem dX12_tellsAct_63 : decode cX12_tellsAct 63 = .ok (.iload_n 1, 1) := by decide +kernel
theorem dX12_tellsAct_64 : decode cX12_tellsAct 64 = .ok (.isub, 1) := by decide +kernel
theorem dX12_tellsAct_65 : decode cX12_tellsAct 65 = .ok (.invokevirtual 418, 3) := by decide +kernel
theorem dX12_tellsAct_68 : decode cX12_tellsAct 68 = .ok (.ireturn, 1) := by decide +kernel
theorem dX12_tellsAct_69 : decode cX12_tellsAct 69 = .ok (.aload_n 0, 1) := by decide +kernel
theorem dX12_tellsAct_70 : decode cX12_tellsAct 70 = .ok (.iload_n 1, 1) := by decide +kernel
theorem dX12_tellsAct_71 : decode cX12_tellsAct 71 = .ok (.iload_n 2, 1) := by decide +kernel
theorem dX12_tellsAct_72 : decode cX12_tellsAct 72 = .ok (.invokevirtual 418, 3) := by decide +kernel
theorem dX12_tellsAct_75 : decode cX12_tellsAct 75 = .ok (.ireturn, 1) := by decide +kernel
theorem dX12_act_0 : decode cX12_act 0 = .ok (.aload_n 0, 1) := by decide +kernel
theorem dX12_act_1 : decode cX12_act 1 = .ok (.iconst 0, 1) := by decide +kernel
theorem dX12_act_2 : decode cX12_act 2 = .ok (.putfield 214, 3) := by decide +kernel
theorem dX12_act_5 : decode cX12_act 5 = .ok (.aload_n 0, 1) := by decide +kernel
theorem dX12_act_6 : decode cX12_act 6 = .ok (.iload_n 1, 1) := by decide +kernel
theorem dX12_act_7 : decode cX12_act 7 = .ok (.invokevirtual 329, 3) := by decide +kernel
theorem dX12_act_10 : decode cX12_act 10 = .ok (.ifCond .eq 13, 3) := by decide +kernel
theorem dX12_act_13 : decode cX12_act 13 = .ok (.aload_n 0, 1) := by decide +kernel
theorem dX12_act_14 : decode cX12_act 14 = .ok (.iload_n 2, 1) := by decide +kernel
theorem dX12_act_15 : decode cX12_act 15 = .ok (.iconst 0, 1) := by decide +kernel
theorem dX12_act_16 : decode cX12_act 16 = .ok (.iconst 2, 1) := by decide +kernel
theorem dX12_act_17 : decode cX12_act 17 = .ok (.invokevirtual 233, 3) := by decide +kernel
theorem dX12_act_20 : decode cX12_act 20 = .ok (.ifCond .ne 5, 3) := by decide +kernel
theorem dX12_act_23 : decode cX12_act 23 = .ok (.iconst 0, 1) := by decide +kernel
theorem dX12_act_24 : decode cX12_act 24 = .ok (.ireturn, 1) := by decide +kernel
theorem dX12_act_25 : decode cX12_act 25 = .ok (.iload_n 2, 1) := by decide +kernel
theorem dX12_act_26 : decode cX12_act 26 = .ok (.ifCond .ne 12, 3) := by decide +kernel
theorem dX12_act_29 : decode cX12_act 29 = .ok (.aload_n 0, 1) := by decide +kernel
theorem dX12_act_30 : decode cX12_act 30 = .ok (.iload_n 1, 1) := by decide +kernel
theorem dX12_act_31 : decode cX12_act 31 = .ok (.iload_n 3, 1) := by decide +kernel
theorem dX12_act_32 : decode cX12_act 32 = .ok (.invokevirtual 406, 3) := by decide +kernel
theorem dX12_act_35 : decode cX12_act 35 = .ok (.goto 23, 3) := by decide +kernel
theorem dX12_act_38 : decode cX12_act 38 = .ok (.iload_n 2, 1) := by decide +kernel
theorem dX12_act_39 : decode cX12_act 39 = .ok (.iconst 1, 1) := by decide +kernel
theorem dX12_act_40 : decode cX12_act 40 = .ok (.if_icmp .ne 12, 3) := by decide +kernel
theorem dX12_act_43 : decode cX12_act 43 = .ok (.aload_n 0, 1) := by decide +kernel
theorem dX12_act_44 : decode cX12_act 44 = .ok (.iload_n 1, 1) := by decide +kernel
theorem dX12_act_45 : decode cX12_act 45 = .ok (.iload_n 3, 1) := by decide +kernel
theorem dX12_act_46 : decode cX12_act 46 = .ok (.invokevirtual 415, 3) := by decide +kernel
theorem dX12_act_49 : decode cX12_act 49 = .ok (.goto 9, 3) := by decide +kernel
theorem dX12_act_52 : decode cX12_act 52 = .ok (.aload_n 0, 1) := by decide +kernel
theorem dX12_act_53 : decode cX12_act 53 = .ok (.iload_n 1, 1) := by decide +kernel
theorem dX12_act_54 : decode cX12_act 54 = .ok (.iload_n 3, 1) := by decide +kernel
theorem dX12_act_55 : decode cX12_act 55 = .ok (.invokevirtual 421, 3) := by decide +kernel
theorem dX12_act_58 : decode cX12_act 58 = .ok (.ireturn, 1) := by decide +kernel
theorem dX12_trace_0 : decode cX12_trace 0 = .ok (.aload_n 0, 1) := by decide +kernel
theorem dX12_trace_1 : decode cX12_trace 1 = .ok (.iload_n 1, 1) := by decide +kernel
theorem dX12_trace_2 : decode cX12_trace 2 = .ok (.iconst 0, 1) := by decide +kernel
theorem dX12_trace_3 : decode cX12_trace 3 = .ok (.bipush 19, 2) := by decide +kernel
theorem dX12_trace_5 : decode cX12_trace 5 = .ok (.invokevirtual 233, 3) := by decide +kernel
theorem dX12_trace_8 : decode cX12_trace 8 = .ok (.ifCond .eq 20, 3) := by decide +kernel
theorem dX12_trace_11 : decode cX12_trace 11 = .ok (.iload_n 1, 1) := by decide +kernel
theorem dX12_trace_12 : decode cX12_trace 12 = .ok (.aload_n 0, 1) := by decide +kernel
theorem dX12_trace_13 : decode cX12_trace 13 = .ok (.getfield 214, 3) := by decide +kernel
theorem dX12_trace_16 : decode cX12_trace 16 = .ok (.if_icmp .ge 12, 3) := by decide +kernel
theorem dX12_trace_19 : decode cX12_trace 19 = .ok (.aload_n 0, 1) := by decide +kernel
theorem dX12_trace_20 : decode cX12_trace 20 = .ok (.getfield 217, 3) := by decide +kernel
theorem dX12_trace_23 : decode cX12_trace 23 = .ok (.iload_n 1, 1) := by decide +kernel
theorem dX12_trace_24 : decode cX12_trace 24 = .ok (.iaload, 1) := by decide +kernel
theorem dX12_trace_25 : decode cX12_trace 25 = .ok (.goto 4, 3) := by decide +kernel
theorem dX12_trace_28 : decode cX12_trace 28 = .ok (.iconst (-1), 1) := by decide +kernel
theorem dX12_trace_29 : decode cX12_trace 29 = .ok (.ireturn, 1) := by decide +kernel
theorem dX12_taken_0 : decode cX12_taken 0 = .ok (.aload_n 0, 1) := by decide +kernel
theorem dX12_taken_1 : decode cX12_taken 1 = .ok (.iload_n 2, 1) := by decide +kernel
theorem dX12_taken_2 : decode cX12_taken 2 = .ok (.iconst 0, 1) := by decide +kernel
theorem dX12_taken_3 : decode cX12_taken 3 = .ok (.bipush 6, 2) := by decide +kernel
theorem dX12_taken_5 : decode cX12_taken 5 = .ok (.invokevirtual 233, 3) := by decide +kernel
theorem dX12_taken_8 : decode cX12_taken 8 = .ok (.ifCond .ne 6, 3) := by decide +kernel
theorem dX12_taken_11 : decode cX12_taken 11 = .ok (.bipush (-2), 2) := by decide +kernel
theorem dX12_taken_13 : decode cX12_taken 13 = .ok (.ireturn, 1) := by decide +kernel
theorem dX12_taken_14 : decode cX12_taken 14 = .ok (.aload_n 0, 1) := by decide +kernel
theorem dX12_taken_15 : decode cX12_taken 15 = .ok (.iload_n 1, 1) := by decide +kernel
theorem dX12_taken_16 : decode cX12_taken 16 = .ok (.invokevirtual 329, 3) := by decide +kernel
theorem dX12_taken_19 : decode cX12_taken 19 = .ok (.ifCond .ne 6, 3) := by decide +kernel
theorem dX12_taken_22 : decode cX12_taken 22 = .ok (.bipush (-11), 2) := by decide +kernel
theorem dX12_taken_24 : decode cX12_taken 24 = .ok (.ireturn, 1) := by decide +kernel
theorem dX12_taken_25 : decode cX12_taken 25 = .ok (.aload_n 0, 1) := by decide +kernel
theorem dX12_taken_26 : decode cX12_taken 26 = .ok (.getfield 102, 3) := by decide +kernel
theorem dX12_taken_29 : decode cX12_taken 29 = .ok (.iload_n 1, 1) := by decide +kernel
theorem dX12_taken_30 : decode cX12_taken 30 = .ok (.iaload, 1) := by decide +kernel
theorem dX12_taken_31 : decode cX12_taken 31 = .ok (.istore_n 3, 1) := by decide +kernel
theorem dX12_taken_32 : decode cX12_taken 32 = .ok (.iload_n 2, 1) := by decide +kernel
theorem dX12_taken_33 : decode cX12_taken 33 = .ok (.ifCond .eq 34, 3) := by decide +kernel
theorem dX12_taken_36 : decode cX12_taken 36 = .ok (.iload_n 3, 1) := by decide +kernel
theorem dX12_taken_37 : decode cX12_taken 37 = .ok (.iload_n 2, 1) := by decide +kernel
theorem dX12_taken_38 : decode cX12_taken 38 = .ok (.if_icmp .eq 29, 3) := by decide +kernel
theorem dX12_taken_41 : decode cX12_taken 41 = .ok (.iload_n 2, 1) := by decide +kernel
theorem dX12_taken_42 : decode cX12_taken 42 = .ok (.iconst 1, 1) := by decide +kernel
theorem dX12_taken_43 : decode cX12_taken 43 = .ok (.if_icmp .ne 13, 3) := by decide +kernel
theorem dX12_taken_46 : decode cX12_taken 46 = .ok (.iload_n 3, 1) := by decide +kernel
theorem dX12_taken_47 : decode cX12_taken 47 = .ok (.iconst 4, 1) := by decide +kernel
theorem dX12_taken_48 : decode cX12_taken 48 = .ok (.if_icmp .eq 19, 3) := by decide +kernel
theorem dX12_taken_51 : decode cX12_taken 51 = .ok (.iload_n 3, 1) := by decide +kernel
theorem dX12_taken_52 : decode cX12_taken 52 = .ok (.iconst 5, 1) := by decide +kernel
theorem dX12_taken_53 : decode cX12_taken 53 = .ok (.if_icmp .eq 14, 3) := by decide +kernel
theorem dX12_taken_56 : decode cX12_taken 56 = .ok (.iload_n 2, 1) := by decide +kernel
theorem dX12_taken_57 : decode cX12_taken 57 = .ok (.iconst 2, 1) := by decide +kernel
theorem dX12_taken_58 : decode cX12_taken 58 = .ok (.if_icmp .ne 13, 3) := by decide +kernel
theorem dX12_taken_61 : decode cX12_taken 61 = .ok (.iload_n 3, 1) := by decide +kernel
theorem dX12_taken_62 : decode cX12_taken 62 = .ok (.bipush 6, 2) := by decide +kernel
theorem dX12_taken_64 : decode cX12_taken 64 = .ok (.if_icmp .ne 7, 3) := by decide +kernel
theorem dX12_taken_67 : decode cX12_taken 67 = .ok (.iload_n 3, 1) := by decide +kernel
theorem dX12_taken_68 : decode cX12_taken 68 = .ok (.goto 5, 3) := by decide +kernel
theorem dX12_taken_71 : decode cX12_taken 71 = .ok (.bipush (-12), 2) := by decide +kernel
theorem dX12_taken_73 : decode cX12_taken 73 = .ok (.ireturn, 1) := by decide +kernel
theorem dX12_count_0 : decode cX12_count 0 = .ok (.iload_n 1, 1) := by decide +kernel
theorem dX12_count_1 : decode cX12_count 1 = .ok (.tableswitch 78 0 6 #[43, 48, 53, 58, 63, 68, 73], 43) := by decide +kernel
theorem dX12_count_44 : decode cX12_count 44 = .ok (.aload_n 0, 1) := by decide +kernel
theorem dX12_count_45 : decode cX12_count 45 = .ok (.getfield 7, 3) := by decide +kernel
theorem dX12_count_48 : decode cX12_count 48 = .ok (.ireturn, 1) := by decide +kernel
theorem dX12_count_49 : decode cX12_count 49 = .ok (.aload_n 0, 1) := by decide +kernel
theorem dX12_count_50 : decode cX12_count 50 = .ok (.getfield 93, 3) := by decide +kernel
theorem dX12_count_53 : decode cX12_count 53 = .ok (.ireturn, 1) := by decide +kernel
theorem dX12_count_54 : decode cX12_count 54 = .ok (.aload_n 0, 1) := by decide +kernel
theorem dX12_count_55 : decode cX12_count 55 = .ok (.getfield 96, 3) := by decide +kernel
theorem dX12_count_58 : decode cX12_count 58 = .ok (.ireturn, 1) := by decide +kernel
theorem dX12_count_59 : decode cX12_count 59 = .ok (.aload_n 0, 1) := by decide +kernel
theorem dX12_count_60 : decode cX12_count 60 = .ok (.getfield 165, 3) := by decide +kernel
theorem dX12_count_63 : decode cX12_count 63 = .ok (.ireturn, 1) := by decide +kernel
theorem dX12_count_64 : decode cX12_count 64 = .ok (.aload_n 0, 1) := by decide +kernel
theorem dX12_count_65 : decode cX12_count 65 = .ok (.getfield 99, 3) := by decide +kernel
theorem dX12_count_68 : decode cX12_count 68 = .ok (.ireturn, 1) := by decide +kernel
theorem dX12_count_69 : decode cX12_count 69 = .ok (.aload_n 0, 1) := by decide +kernel
theorem dX12_count_70 : decode cX12_count 70 = .ok (.getfield 16, 3) := by decide +kernel
theorem dX12_count_73 : decode cX12_count 73 = .ok (.ireturn, 1) := by decide +kernel
theorem dX12_count_74 : decode cX12_count 74 = .ok (.aload_n 0, 1) := by decide +kernel
theorem dX12_count_75 : decode cX12_count 75 = .ok (.getfield 214, 3) := by decide +kernel
theorem dX12_count_78 : decode cX12_count 78 = .ok (.ireturn, 1) := by decide +kernel
theorem dX12_count_79 : decode cX12_count 79 = .ok (.bipush (-2), 2) := by decide +kernel
theorem dX12_count_81 : decode cX12_count 81 = .ok (.ireturn, 1) := by decide +kernel
theorem dX12_isTape_0 : decode cX12_isTape 0 = .ok (.aload_n 0, 1) := by decide +kernel
theorem dX12_isTape_1 : decode cX12_isTape 1 = .ok (.iload_n 1, 1) := by decide +kernel
theorem dX12_isTape_2 : decode cX12_isTape 2 = .ok (.iconst 0, 1) := by decide +kernel
theorem dX12_isTape_3 : decode cX12_isTape 3 = .ok (.iconst 5, 1) := by decide +kernel
theorem dX12_isTape_4 : decode cX12_isTape 4 = .ok (.invokevirtual 233, 3) := by decide +kernel
theorem dX12_isTape_7 : decode cX12_isTape 7 = .ok (.ireturn, 1) := by decide +kernel
theorem dX12_tape_0 : decode cX12_tape 0 = .ok (.aload_n 0, 1) := by decide +kernel
theorem dX12_tape_1 : decode cX12_tape 1 = .ok (.iload_n 1, 1) := by decide +kernel
theorem dX12_tape_2 : decode cX12_tape 2 = .ok (.invokevirtual 388, 3) := by decide +kernel
theorem dX12_tape_5 : decode cX12_tape 5 = .ok (.ifCond .ne 5, 3) := by decide +kernel
theorem dX12_tape_8 : decode cX12_tape 8 = .ok (.iconst (-1), 1) := by decide +kernel
theorem dX12_tape_9 : decode cX12_tape 9 = .ok (.ireturn, 1) := by decide +kernel
theorem dX12_tape_10 : decode cX12_tape 10 = .ok (.aload_n 0, 1) := by decide +kernel
theorem dX12_tape_11 : decode cX12_tape 11 = .ok (.iload_n 2, 1) := by decide +kernel
theorem dX12_tape_12 : decode cX12_tape 12 = .ok (.iconst (-1), 1) := by decide +kernel
theorem dX12_tape_13 : decode cX12_tape 13 = .ok (.iconst 4, 1) := by decide +kernel
theorem dX12_tape_14 : decode cX12_tape 14 = .ok (.invokevirtual 233, 3) := by decide +kernel
theorem dX12_tape_17 : decode cX12_tape 17 = .ok (.ifCond .eq 13, 3) := by decide +kernel
theorem dX12_tape_20 : decode cX12_tape 20 = .ok (.iload_n 2, 1) := by decide +kernel
theorem dX12_tape_21 : decode cX12_tape 21 = .ok (.ifCond .lt 12, 3) := by decide +kernel
theorem dX12_tape_24 : decode cX12_tape 24 = .ok (.iload_n 3, 1) := by decide +kernel
theorem dX12_tape_25 : decode cX12_tape 25 = .ok (.bipush 60, 2) := by decide +kernel
theorem dX12_tape_27 : decode cX12_tape 27 = .ok (.if_icmp .le 6, 3) := by decide +kernel
theorem dX12_tape_30 : decode cX12_tape 30 = .ok (.bipush (-2), 2) := by decide +kernel
theorem dX12_tape_32 : decode cX12_tape 32 = .ok (.ireturn, 1) := by decide +kernel
theorem dX12_tape_33 : decode cX12_tape 33 = .ok (.iload_n 2, 1) := by decide +kernel
theorem dX12_tape_34 : decode cX12_tape 34 = .ok (.ifCond .lt 10, 3) := by decide +kernel
theorem dX12_tape_37 : decode cX12_tape 37 = .ok (.iload_n 3, 1) := by decide +kernel
theorem dX12_tape_38 : decode cX12_tape 38 = .ok (.ifCond .ge 6, 3) := by decide +kernel
theorem dX12_tape_41 : decode cX12_tape 41 = .ok (.bipush (-14), 2) := by decide +kernel
theorem dX12_tape_43 : decode cX12_tape 43 = .ok (.ireturn, 1) := by decide +kernel
theorem dX12_tape_44 : decode cX12_tape 44 = .ok (.aload_n 0, 1) := by decide +kernel
theorem dX12_tape_45 : decode cX12_tape 45 = .ok (.getfield 220, 3) := by decide +kernel
theorem dX12_tape_48 : decode cX12_tape 48 = .ok (.iload_n 1, 1) := by decide +kernel
theorem dX12_tape_49 : decode cX12_tape 49 = .ok (.iload_n 2, 1) := by decide +kernel
theorem dX12_tape_50 : decode cX12_tape 50 = .ok (.iastore, 1) := by decide +kernel
theorem dX12_tape_51 : decode cX12_tape 51 = .ok (.aload_n 0, 1) := by decide +kernel
theorem dX12_tape_52 : decode cX12_tape 52 = .ok (.getfield 223, 3) := by decide +kernel
theorem dX12_tape_55 : decode cX12_tape 55 = .ok (.iload_n 1, 1) := by decide +kernel
theorem dX12_tape_56 : decode cX12_tape 56 = .ok (.iload_n 2, 1) := by decide +kernel
theorem dX12_tape_57 : decode cX12_tape 57 = .ok (.ifCond .ge 7, 3) := by decide +kernel
theorem dX12_tape_60 : decode cX12_tape 60 = .ok (.iconst 0, 1) := by decide +kernel
theorem dX12_tape_61 : decode cX12_tape 61 = .ok (.goto 4, 3) := by decide +kernel
theorem dX12_tape_64 : decode cX12_tape 64 = .ok (.iload_n 3, 1) := by decide +kernel
theorem dX12_tape_65 : decode cX12_tape 65 = .ok (.iastore, 1) := by decide +kernel
theorem dX12_tape_66 : decode cX12_tape 66 = .ok (.iconst 0, 1) := by decide +kernel
theorem dX12_tape_67 : decode cX12_tape 67 = .ok (.istore 4, 2) := by decide +kernel
theorem dX12_tape_69 : decode cX12_tape 69 = .ok (.iload 4, 2) := by decide +kernel
theorem dX12_tape_71 : decode cX12_tape 71 = .ok (.bipush 60, 2) := by decide +kernel
theorem dX12_tape_73 : decode cX12_tape 73 = .ok (.if_icmp .ge 22, 3) := by decide +kernel
theorem dX12_tape_76 : decode cX12_tape 76 = .ok (.aload_n 0, 1) := by decide +kernel
theorem dX12_tape_77 : decode cX12_tape 77 = .ok (.getfield 226, 3) := by decide +kernel
theorem dX12_tape_80 : decode cX12_tape 80 = .ok (.bipush 60, 2) := by decide +kernel
theorem dX12_tape_82 : decode cX12_tape 82 = .ok (.iload_n 1, 1) := by decide +kernel
theorem dX12_tape_83 : decode cX12_tape 83 = .ok (.imul, 1) := by decide +kernel
theorem dX12_tape_84 : decode cX12_tape 84 = .ok (.iload 4, 2) := by decide +kernel
theorem dX12_tape_86 : decode cX12_tape 86 = .ok (.iadd, 1) := by decide +kernel
theorem dX12_tape_87 : decode cX12_tape 87 = .ok (.lconst 0, 1) := by decide +kernel
theorem dX12_tape_88 : decode cX12_tape 88 = .ok (.lastore, 1) := by decide +kernel
theorem dX12_tape_89 : decode cX12_tape 89 = .ok (.iinc 4 1, 3) := by decide +kernel
theorem dX12_tape_92 : decode cX12_tape 92 = .ok (.goto (-23), 3) := by decide +kernel
theorem dX12_tape_95 : decode cX12_tape 95 = .ok (.iconst 1, 1) := by decide +kernel
theorem dX12_tape_96 : decode cX12_tape 96 = .ok (.ireturn, 1) := by decide +kernel
theorem dX12_narrow_0 : decode cX12_narrow 0 = .ok (.iload_n 1, 1) := by decide +kernel
theorem dX12_narrow_1 : decode cX12_narrow 1 = .ok (.ifCond .ne 10, 3) := by decide +kernel
theorem dX12_narrow_4 : decode cX12_narrow 4 = .ok (.lload_n 2, 1) := by decide +kernel
theorem dX12_narrow_5 : decode cX12_narrow 5 = .ok (.l2i, 1) := by decide +kernel
theorem dX12_narrow_6 : decode cX12_narrow 6 = .ok (.i2b, 1) := by decide +kernel
theorem dX12_narrow_7 : decode cX12_narrow 7 = .ok (.i2l, 1) := by decide +kernel
theorem dX12_narrow_8 : decode cX12_narrow 8 = .ok (.goto 46, 3) := by decide +kernel
theorem dX12_narrow_11 : decode cX12_narrow 11 = .ok (.iload_n 1, 1) := by decide +kernel
theorem dX12_narrow_12 : decode cX12_narrow 12 = .ok (.iconst 1, 1) := by decide +kernel
theorem dX12_narrow_13 : decode cX12_narrow 13 = .ok (.if_icmp .ne 10, 3) := by decide +kernel
theorem dX12_narrow_16 : decode cX12_narrow 16 = .ok (.lload_n 2, 1) := by decide +kernel
theorem dX12_narrow_17 : decode cX12_narrow 17 = .ok (.l2i, 1) := by decide +kernel
theorem dX12_narrow_18 : decode cX12_narrow 18 = .ok (.i2s, 1) := by decide +kernel
theorem dX12_narrow_19 : decode cX12_narrow 19 = .ok (.i2l, 1) := by decide +kernel
theorem dX12_narrow_20 : decode cX12_narrow 20 = .ok (.goto 34, 3) := by decide +kernel
theorem dX12_narrow_23 : decode cX12_narrow 23 = .ok (.iload_n 1, 1) := by decide +kernel
theorem dX12_narrow_24 : decode cX12_narrow 24 = .ok (.iconst 2, 1) := by decide +kernel
theorem dX12_narrow_25 : decode cX12_narrow 25 = .ok (.if_icmp .ne 9, 3) := by decide +kernel
theorem dX12_narrow_28 : decode cX12_narrow 28 = .ok (.lload_n 2, 1) := by decide +kernel
theorem dX12_narrow_29 : decode cX12_narrow 29 = .ok (.l2i, 1) := by decide +kernel
theorem dX12_narrow_30 : decode cX12_narrow 30 = .ok (.i2l, 1) := by decide +kernel
theorem dX12_narrow_31 : decode cX12_narrow 31 = .ok (.goto 23, 3) := by decide +kernel
theorem dX12_narrow_34 : decode cX12_narrow 34 = .ok (.iload_n 1, 1) := by decide +kernel
theorem dX12_narrow_35 : decode cX12_narrow 35 = .ok (.iconst 4, 1) := by decide +kernel
theorem dX12_narrow_36 : decode cX12_narrow 36 = .ok (.if_icmp .ne 17, 3) := by decide +kernel
theorem dX12_narrow_39 : decode cX12_narrow 39 = .ok (.lload_n 2, 1) := by decide +kernel
theorem dX12_narrow_40 : decode cX12_narrow 40 = .ok (.lconst 0, 1) := by decide +kernel
theorem dX12_narrow_41 : decode cX12_narrow 41 = .ok (.lcmp, 1) := by decide +kernel
theorem dX12_narrow_42 : decode cX12_narrow 42 = .ok (.ifCond .eq 7, 3) := by decide +kernel
theorem dX12_narrow_45 : decode cX12_narrow 45 = .ok (.lconst 1, 1) := by decide +kernel
theorem dX12_narrow_46 : decode cX12_narrow 46 = .ok (.goto 8, 3) := by decide +kernel
theorem dX12_narrow_49 : decode cX12_narrow 49 = .ok (.lconst 0, 1) := by decide +kernel
theorem dX12_narrow_50 : decode cX12_narrow 50 = .ok (.goto 4, 3) := by decide +kernel
theorem dX12_narrow_53 : decode cX12_narrow 53 = .ok (.lload_n 2, 1) := by decide +kernel
theorem dX12_narrow_54 : decode cX12_narrow 54 = .ok (.lreturn, 1) := by decide +kernel
theorem dX12_item_0 : decode cX12_item 0 = .ok (.aload_n 0, 1) := by decide +kernel
theorem dX12_item_1 : decode cX12_item 1 = .ok (.iload_n 1, 1) := by decide +kernel
theorem dX12_item_2 : decode cX12_item 2 = .ok (.invokevirtual 388, 3) := by decide +kernel
theorem dX12_item_5 : decode cX12_item 5 = .ok (.ifCond .ne 5, 3) := by decide +kernel
theorem dX12_item_8 : decode cX12_item 8 = .ok (.iconst (-1), 1) := by decide +kernel
theorem dX12_item_9 : decode cX12_item 9 = .ok (.ireturn, 1) := by decide +kernel
theorem dX12_item_10 : decode cX12_item 10 = .ok (.aload_n 0, 1) := by decide +kernel
theorem dX12_item_11 : decode cX12_item 11 = .ok (.getfield 220, 3) := by decide +kernel
theorem dX12_item_14 : decode cX12_item 14 = .ok (.iload_n 1, 1) := by decide +kernel
theorem dX12_item_15 : decode cX12_item 15 = .ok (.iaload, 1) := by decide +kernel
theorem dX12_item_16 : decode cX12_item 16 = .ok (.ifCond .ge 6, 3) := by decide +kernel
theorem dX12_item_19 : decode cX12_item 19 = .ok (.bipush (-11), 2) := by decide +kernel
theorem dX12_item_21 : decode cX12_item 21 = .ok (.ireturn, 1) := by decide +kernel
theorem dX12_item_22 : decode cX12_item 22 = .ok (.aload_n 0, 1) := by decide +kernel
theorem dX12_item_23 : decode cX12_item 23 = .ok (.iload_n 2, 1) := by decide +kernel
theorem dX12_item_24 : decode cX12_item 24 = .ok (.iconst 0, 1) := by decide +kernel
theorem dX12_item_25 : decode cX12_item 25 = .ok (.aload_n 0, 1) := by decide +kernel
theorem dX12_item_26 : decode cX12_item 26 = .ok (.getfield 223, 3) := by decide +kernel
theorem dX12_item_29 : decode cX12_item 29 = .ok (.iload_n 1, 1) := by decide +kernel
theorem dX12_item_30 : decode cX12_item 30 = .ok (.iaload, 1) := by decide +kernel
theorem dX12_item_31 : decode cX12_item 31 = .ok (.iconst 1, 1) := by decide +kernel
theorem dX12_item_32 : decode cX12_item 32 = .ok (.isub, 1) := by decide +kernel
theorem dX12_item_33 : decode cX12_item 33 = .ok (.invokevirtual 233, 3) := by decide +kernel
theorem dX12_item_36 : decode cX12_item 36 = .ok (.ifCond .ne 6, 3) := by decide +kernel
theorem dX12_item_39 : decode cX12_item 39 = .ok (.bipush (-13), 2) := by decide +kernel
theorem dX12_item_41 : decode cX12_item 41 = .ok (.ireturn, 1) := by decide +kernel
theorem dX12_item_42 : decode cX12_item 42 = .ok (.aload_n 0, 1) := by decide +kernel
theorem dX12_item_43 : decode cX12_item 43 = .ok (.getfield 226, 3) := by decide +kernel
theorem dX12_item_46 : decode cX12_item 46 = .ok (.bipush 60, 2) := by decide +kernel
theorem dX12_item_48 : decode cX12_item 48 = .ok (.iload_n 1, 1) := by decide +kernel
theorem dX12_item_49 : decode cX12_item 49 = .ok (.imul, 1) := by decide +kernel
theorem dX12_item_50 : decode cX12_item 50 = .ok (.iload_n 2, 1) := by decide +kernel
theorem dX12_item_51 : decode cX12_item 51 = .ok (.iadd, 1) := by decide +kernel
theorem dX12_item_52 : decode cX12_item 52 = .ok (.aload_n 0, 1) := by decide +kernel
theorem dX12_item_53 : decode cX12_item 53 = .ok (.aload_n 0, 1) := by decide +kernel
theorem dX12_item_54 : decode cX12_item 54 = .ok (.getfield 220, 3) := by decide +kernel
theorem dX12_item_57 : decode cX12_item 57 = .ok (.iload_n 1, 1) := by decide +kernel
theorem dX12_item_58 : decode cX12_item 58 = .ok (.iaload, 1) := by decide +kernel
theorem dX12_item_59 : decode cX12_item 59 = .ok (.lload_n 3, 1) := by decide +kernel
theorem dX12_item_60 : decode cX12_item 60 = .ok (.invokevirtual 424, 3) := by decide +kernel
theorem dX12_item_63 : decode cX12_item 63 = .ok (.lastore, 1) := by decide +kernel
theorem dX12_item_64 : decode cX12_item 64 = .ok (.iconst 1, 1) := by decide +kernel
theorem dX12_item_65 : decode cX12_item 65 = .ok (.ireturn, 1) := by decide +kernel
theorem dX12_read_0 : decode cX12_read 0 = .ok (.aload_n 0, 1) := by decide +kernel
theorem dX12_read_1 : decode cX12_read 1 = .ok (.iload_n 1, 1) := by decide +kernel
theorem dX12_read_2 : decode cX12_read 2 = .ok (.invokevirtual 388, 3) := by decide +kernel
theorem dX12_read_5 : decode cX12_read 5 = .ok (.ifCond .eq 29, 3) := by decide +kernel
theorem dX12_read_8 : decode cX12_read 8 = .ok (.aload_n 0, 1) := by decide +kernel
theorem dX12_read_9 : decode cX12_read 9 = .ok (.getfield 220, 3) := by decide +kernel
theorem dX12_read_12 : decode cX12_read 12 = .ok (.iload_n 1, 1) := by decide +kernel
theorem dX12_read_13 : decode cX12_read 13 = .ok (.iaload, 1) := by decide +kernel
theorem dX12_read_14 : decode cX12_read 14 = .ok (.ifCond .lt 20, 3) := by decide +kernel
theorem dX12_read_17 : decode cX12_read 17 = .ok (.aload_n 0, 1) := by decide +kernel
theorem dX12_read_18 : decode cX12_read 18 = .ok (.iload_n 2, 1) := by decide +kernel
theorem dX12_read_19 : decode cX12_read 19 = .ok (.iconst 0, 1) := by decide +kernel
theorem dX12_read_20 : decode cX12_read 20 = .ok (.aload_n 0, 1) := by decide +kernel
theorem dX12_read_21 : decode cX12_read 21 = .ok (.getfield 223, 3) := by decide +kernel
theorem dX12_read_24 : decode cX12_read 24 = .ok (.iload_n 1, 1) := by decide +kernel
theorem dX12_read_25 : decode cX12_read 25 = .ok (.iaload, 1) := by decide +kernel
theorem dX12_read_26 : decode cX12_read 26 = .ok (.iconst 1, 1) := by decide +kernel
theorem dX12_read_27 : decode cX12_read 27 = .ok (.isub, 1) := by decide +kernel
theorem dX12_read_28 : decode cX12_read 28 = .ok (.invokevirtual 233, 3) := by decide +kernel
theorem dX12_read_31 : decode cX12_read 31 = .ok (.ifCond .ne 9, 3) := by decide +kernel
theorem dX12_read_34 : decode cX12_read 34 = .ok (.ldc2_w 377, 3) := by decide +kernel
theorem dX12_read_37 : decode cX12_read 37 = .ok (.goto 14, 3) := by decide +kernel
theorem dX12_read_40 : decode cX12_read 40 = .ok (.aload_n 0, 1) := by decide +kernel
theorem dX12_read_41 : decode cX12_read 41 = .ok (.getfield 226, 3) := by decide +kernel
theorem dX12_read_44 : decode cX12_read 44 = .ok (.bipush 60, 2) := by decide +kernel
theorem dX12_read_46 : decode cX12_read 46 = .ok (.iload_n 1, 1) := by decide +kernel
theorem dX12_read_47 : decode cX12_read 47 = .ok (.imul, 1) := by decide +kernel
theorem dX12_read_48 : decode cX12_read 48 = .ok (.iload_n 2, 1) := by decide +kernel
theorem dX12_read_49 : decode cX12_read 49 = .ok (.iadd, 1) := by decide +kernel
theorem dX12_read_50 : decode cX12_read 50 = .ok (.laload, 1) := by decide +kernel
theorem dX12_read_51 : decode cX12_read 51 = .ok (.lreturn, 1) := by decide +kernel
theorem dX12_shift_0 : decode cX12_shift 0 = .ok (.aload_n 0, 1) := by decide +kernel
theorem dX12_shift_1 : decode cX12_shift 1 = .ok (.iload_n 1, 1) := by decide +kernel
theorem dX12_shift_2 : decode cX12_shift 2 = .ok (.invokevirtual 388, 3) := by decide +kernel
theorem dX12_shift_5 : decode cX12_shift 5 = .ok (.ifCond .eq 11, 3) := by decide +kernel
theorem dX12_shift_8 : decode cX12_shift 8 = .ok (.aload_n 0, 1) := by decide +kernel
theorem dX12_shift_9 : decode cX12_shift 9 = .ok (.iload_n 3, 1) := by decide +kernel
theorem dX12_shift_10 : decode cX12_shift 10 = .ok (.invokevirtual 388, 3) := by decide +kernel
theorem dX12_shift_13 : decode cX12_shift 13 = .ok (.ifCond .ne 5, 3) := by decide +kernel
theorem dX12_shift_16 : decode cX12_shift 16 = .ok (.iconst (-1), 1) := by decide +kernel
theorem dX12_shift_17 : decode cX12_shift 17 = .ok (.ireturn, 1) := by decide +kernel
theorem dX12_shift_18 : decode cX12_shift 18 = .ok (.aload_n 0, 1) := by decide +kernel
theorem dX12_shift_19 : decode cX12_shift 19 = .ok (.getfield 220, 3) := by decide +kernel
theorem dX12_shift_22 : decode cX12_shift 22 = .ok (.iload_n 1, 1) := by decide +kernel
theorem dX12_shift_23 : decode cX12_shift 23 = .ok (.iaload, 1) := by decide +kernel
theorem dX12_shift_24 : decode cX12_shift 24 = .ok (.ifCond .lt 12, 3) := by decide +kernel
theorem dX12_shift_27 : decode cX12_shift 27 = .ok (.aload_n 0, 1) := by decide +kernel
theorem dX12_shift_28 : decode cX12_shift 28 = .ok (.getfield 220, 3) := by decide +kernel
theorem dX12_shift_31 : decode cX12_shift 31 = .ok (.iload_n 3, 1) := by decide +kernel
theorem dX12_shift_32 : decode cX12_shift 32 = .ok (.iaload, 1) := by decide +kernel
theorem dX12_shift_33 : decode cX12_shift 33 = .ok (.ifCond .ge 6, 3) := by decide +kernel
theorem dX12_shift_36 : decode cX12_shift 36 = .ok (.bipush (-11), 2) := by decide +kernel
theorem dX12_shift_38 : decode cX12_shift 38 = .ok (.ireturn, 1) := by decide +kernel
theorem dX12_shift_39 : decode cX12_shift 39 = .ok (.aload_n 0, 1) := by decide +kernel
theorem dX12_shift_40 : decode cX12_shift 40 = .ok (.getfield 220, 3) := by decide +kernel
theorem dX12_shift_43 : decode cX12_shift 43 = .ok (.iload_n 1, 1) := by decide +kernel
theorem dX12_shift_44 : decode cX12_shift 44 = .ok (.iaload, 1) := by decide +kernel
theorem dX12_shift_45 : decode cX12_shift 45 = .ok (.aload_n 0, 1) := by decide +kernel
theorem dX12_shift_46 : decode cX12_shift 46 = .ok (.getfield 220, 3) := by decide +kernel
theorem dX12_shift_49 : decode cX12_shift 49 = .ok (.iload_n 3, 1) := by decide +kernel
theorem dX12_shift_50 : decode cX12_shift 50 = .ok (.iaload, 1) := by decide +kernel
theorem dX12_shift_51 : decode cX12_shift 51 = .ok (.if_icmp .eq 6, 3) := by decide +kernel
theorem dX12_shift_54 : decode cX12_shift 54 = .ok (.bipush (-12), 2) := by decide +kernel
theorem dX12_shift_56 : decode cX12_shift 56 = .ok (.ireturn, 1) := by decide +kernel
theorem dX12_shift_57 : decode cX12_shift 57 = .ok (.iload 5, 2) := by decide +kernel
theorem dX12_shift_59 : decode cX12_shift 59 = .ok (.ifCond .lt 39, 3) := by decide +kernel
theorem dX12_shift_62 : decode cX12_shift 62 = .ok (.iload_n 2, 1) := by decide +kernel
theorem dX12_shift_63 : decode cX12_shift 63 = .ok (.ifCond .lt 35, 3) := by decide +kernel
theorem dX12_shift_66 : decode cX12_shift 66 = .ok (.iload 4, 2) := by decide +kernel
theorem dX12_shift_68 : decode cX12_shift 68 = .ok (.ifCond .lt 30, 3) := by decide +kernel
theorem dX12_shift_71 : decode cX12_shift 71 = .ok (.iload_n 2, 1) := by decide +kernel
theorem dX12_shift_72 : decode cX12_shift 72 = .ok (.aload_n 0, 1) := by decide +kernel
theorem dX12_shift_73 : decode cX12_shift 73 = .ok (.getfield 223, 3) := by decide +kernel
theorem dX12_shift_76 : decode cX12_shift 76 = .ok (.iload_n 1, 1) := by decide +kernel
theorem dX12_shift_77 : decode cX12_shift 77 = .ok (.iaload, 1) := by decide +kernel
theorem dX12_shift_78 : decode cX12_shift 78 = .ok (.iload 5, 2) := by decide +kernel
theorem dX12_shift_80 : decode cX12_shift 80 = .ok (.isub, 1) := by decide +kernel
theorem dX12_shift_81 : decode cX12_shift 81 = .ok (.if_icmp .gt 17, 3) := by decide +kernel
theorem dX12_shift_84 : decode cX12_shift 84 = .ok (.iload 4, 2) := by decide +kernel
theorem dX12_shift_86 : decode cX12_shift 86 = .ok (.aload_n 0, 1) := by decide +kernel
theorem dX12_shift_87 : decode cX12_shift 87 = .ok (.getfield 223, 3) := by decide +kernel
theorem dX12_shift_90 : decode cX12_shift 90 = .ok (.iload_n 3, 1) := by decide +kernel
theorem dX12_shift_91 : decode cX12_shift 91 = .ok (.iaload, 1) := by decide +kernel
theorem dX12_shift_92 : decode cX12_shift 92 = .ok (.iload 5, 2) := by decide +kernel
theorem dX12_shift_94 : decode cX12_shift 94 = .ok (.isub, 1) := by decide +kernel
theorem dX12_shift_95 : decode cX12_shift 95 = .ok (.if_icmp .le 6, 3) := by decide +kernel
theorem dX12_shift_98 : decode cX12_shift 98 = .ok (.bipush (-13), 2) := by decide +kernel
theorem dX12_shift_100 : decode cX12_shift 100 = .ok (.ireturn, 1) := by decide +kernel
theorem dX12_shift_101 : decode cX12_shift 101 = .ok (.iconst 0, 1) := by decide +kernel
theorem dX12_shift_102 : decode cX12_shift 102 = .ok (.istore 6, 2) := by decide +kernel
theorem dX12_shift_104 : decode cX12_shift 104 = .ok (.iload 6, 2) := by decide +kernel
theorem dX12_shift_106 : decode cX12_shift 106 = .ok (.iload 5, 2) := by decide +kernel
theorem dX12_shift_108 : decode cX12_shift 108 = .ok (.if_icmp .ge 30, 3) := by decide +kernel
theorem dX12_shift_111 : decode cX12_shift 111 = .ok (.aload_n 0, 1) := by decide +kernel
theorem dX12_shift_112 : decode cX12_shift 112 = .ok (.getfield 230, 3) := by decide +kernel
theorem dX12_shift_115 : decode cX12_shift 115 = .ok (.iload 6, 2) := by decide +kernel
theorem dX12_shift_117 : decode cX12_shift 117 = .ok (.aload_n 0, 1) := by decide +kernel
theorem dX12_shift_118 : decode cX12_shift 118 = .ok (.getfield 226, 3) := by decide +kernel
theorem dX12_shift_121 : decode cX12_shift 121 = .ok (.bipush 60, 2) := by decide +kernel
theorem dX12_shift_123 : decode cX12_shift 123 = .ok (.iload_n 1, 1) := by decide +kernel
theorem dX12_shift_124 : decode cX12_shift 124 = .ok (.imul, 1) := by decide +kernel
theorem dX12_shift_125 : decode cX12_shift 125 = .ok (.iload_n 2, 1) := by decide +kernel
theorem dX12_shift_126 : decode cX12_shift 126 = .ok (.iadd, 1) := by decide +kernel
theorem dX12_shift_127 : decode cX12_shift 127 = .ok (.iload 6, 2) := by decide +kernel
theorem dX12_shift_129 : decode cX12_shift 129 = .ok (.iadd, 1) := by decide +kernel
theorem dX12_shift_130 : decode cX12_shift 130 = .ok (.laload, 1) := by decide +kernel
theorem dX12_shift_131 : decode cX12_shift 131 = .ok (.lastore, 1) := by decide +kernel
theorem dX12_shift_132 : decode cX12_shift 132 = .ok (.iinc 6 1, 3) := by decide +kernel
theorem dX12_shift_135 : decode cX12_shift 135 = .ok (.goto (-31), 3) := by decide +kernel
theorem dX12_shift_138 : decode cX12_shift 138 = .ok (.iconst 0, 1) := by decide +kernel
theorem dX12_shift_139 : decode cX12_shift 139 = .ok (.istore 6, 2) := by decide +kernel
theorem dX12_shift_141 : decode cX12_shift 141 = .ok (.iload 6, 2) := by decide +kernel
theorem dX12_shift_143 : decode cX12_shift 143 = .ok (.iload 5, 2) := by decide +kernel
theorem dX12_shift_145 : decode cX12_shift 145 = .ok (.if_icmp .ge 31, 3) := by decide +kernel
theorem dX12_shift_148 : decode cX12_shift 148 = .ok (.aload_n 0, 1) := by decide +kernel
theorem dX12_shift_149 : decode cX12_shift 149 = .ok (.getfield 226, 3) := by decide +kernel
theorem dX12_shift_152 : decode cX12_shift 152 = .ok (.bipush 60, 2) := by decide +kernel
theorem dX12_shift_154 : decode cX12_shift 154 = .ok (.iload_n 3, 1) := by decide +kernel
theorem dX12_shift_155 : decode cX12_shift 155 = .ok (.imul, 1) := by decide +kernel
theorem dX12_shift_156 : decode cX12_shift 156 = .ok (.iload 4, 2) := by decide +kernel
theorem dX12_shift_158 : decode cX12_shift 158 = .ok (.iadd, 1) := by decide +kernel
theorem dX12_shift_159 : decode cX12_shift 159 = .ok (.iload 6, 2) := by decide +kernel
theorem dX12_shift_161 : decode cX12_shift 161 = .ok (.iadd, 1) := by decide +kernel
theorem dX12_shift_162 : decode cX12_shift 162 = .ok (.aload_n 0, 1) := by decide +kernel
theorem dX12_shift_163 : decode cX12_shift 163 = .ok (.getfield 230, 3) := by decide +kernel
theorem dX12_shift_166 : decode cX12_shift 166 = .ok (.iload 6, 2) := by decide +kernel
theorem dX12_shift_168 : decode cX12_shift 168 = .ok (.laload, 1) := by decide +kernel
theorem dX12_shift_169 : decode cX12_shift 169 = .ok (.lastore, 1) := by decide +kernel
theorem dX12_shift_170 : decode cX12_shift 170 = .ok (.iinc 6 1, 3) := by decide +kernel
theorem dX12_shift_173 : decode cX12_shift 173 = .ok (.goto (-32), 3) := by decide +kernel
theorem dX12_shift_176 : decode cX12_shift 176 = .ok (.iload 5, 2) := by decide +kernel
theorem dX12_shift_178 : decode cX12_shift 178 = .ok (.ireturn, 1) := by decide +kernel
theorem dL_law_0 : decode cL_law 0 = .ok (.new 7, 3) := by decide +kernel
theorem dL_law_3 : decode cL_law 3 = .ok (.dup, 1) := by decide +kernel
theorem dL_law_4 : decode cL_law 4 = .ok (.invokespecial 9, 3) := by decide +kernel
theorem dL_law_7 : decode cL_law 7 = .ok (.astore_n 1, 1) := by decide +kernel
theorem dL_law_8 : decode cL_law 8 = .ok (.new 10, 3) := by decide +kernel
theorem dL_law_11 : decode cL_law 11 = .ok (.dup, 1) := by decide +kernel
theorem dL_law_12 : decode cL_law 12 = .ok (.invokespecial 12, 3) := by decide +kernel
theorem dL_law_15 : decode cL_law 15 = .ok (.astore_n 2, 1) := by decide +kernel
theorem dL_law_16 : decode cL_law 16 = .ok (.iconst 0, 1) := by decide +kernel
theorem dL_law_17 : decode cL_law 17 = .ok (.istore_n 3, 1) := by decide +kernel
theorem dL_law_18 : decode cL_law 18 = .ok (.iload_n 3, 1) := by decide +kernel
theorem dL_law_19 : decode cL_law 19 = .ok (.aload_n 0, 1) := by decide +kernel
theorem dL_law_20 : decode cL_law 20 = .ok (.arraylength, 1) := by decide +kernel
theorem dL_law_21 : decode cL_law 21 = .ok (.bipush 6, 2) := by decide +kernel
theorem dL_law_23 : decode cL_law 23 = .ok (.isub, 1) := by decide +kernel
theorem dL_law_24 : decode cL_law 24 = .ok (.if_icmp .gt 1152, 3) := by decide +kernel
theorem dL_law_27 : decode cL_law 27 = .ok (.aload_n 0, 1) := by decide +kernel
theorem dL_law_28 : decode cL_law 28 = .ok (.iload_n 3, 1) := by decide +kernel
theorem dL_law_29 : decode cL_law 29 = .ok (.iaload, 1) := by decide +kernel
theorem dL_law_30 : decode cL_law 30 = .ok (.bipush 31, 2) := by decide +kernel
theorem dL_law_32 : decode cL_law 32 = .ok (.iand, 1) := by decide +kernel
theorem dL_law_33 : decode cL_law 33 = .ok (.tableswitch 1137 0 29 #[135, 168, 181, 204, 237, 280, 313, 336, 369, 402, 445, 478, 501, 524, 557, 600, 623, 646, 680, 733, 776, 789, 802, 845, 868, 901, 924, 967, 1040, 1074], 135) := by decide +kernel
theorem dL_law_168 : decode cL_law 168 = .ok (.aload_n 1, 1) := by decide +kernel
theorem dL_law_169 : decode cL_law 169 = .ok (.aload_n 0, 1) := by decide +kernel
theorem dL_law_170 : decode cL_law 170 = .ok (.iload_n 3, 1) := by decide +kernel
theorem dL_law_171 : decode cL_law 171 = .ok (.iconst 1, 1) := by decide +kernel
theorem dL_law_172 : decode cL_law 172 = .ok (.iadd, 1) := by decide +kernel
theorem dL_law_173 : decode cL_law 173 = .ok (.iaload, 1) := by decide +kernel
theorem dL_law_174 : decode cL_law 174 = .ok (.aload_n 0, 1) := by decide +kernel
theorem dL_law_175 : decode cL_law 175 = .ok (.iload_n 3, 1) := by decide +kernel
theorem dL_law_176 : decode cL_law 176 = .ok (.iconst 2, 1) := by decide +kernel
theorem dL_law_177 : decode cL_law 177 = .ok (.iadd, 1) := by decide +kernel
theorem dL_law_178 : decode cL_law 178 = .ok (.iaload, 1) := by decide +kernel
theorem dL_law_179 : decode cL_law 179 = .ok (.invokevirtual 13, 3) := by decide +kernel
theorem dL_law_182 : decode cL_law 182 = .ok (.aload_n 2, 1) := by decide +kernel
theorem dL_law_183 : decode cL_law 183 = .ok (.aload_n 0, 1) := by decide +kernel
theorem dL_law_184 : decode cL_law 184 = .ok (.iload_n 3, 1) := by decide +kernel
theorem dL_law_185 : decode cL_law 185 = .ok (.iconst 1, 1) := by decide +kernel
theorem dL_law_186 : decode cL_law 186 = .ok (.iadd, 1) := by decide +kernel
theorem dL_law_187 : decode cL_law 187 = .ok (.iaload, 1) := by decide +kernel
theorem dL_law_188 : decode cL_law 188 = .ok (.aload_n 0, 1) := by decide +kernel
theorem dL_law_189 : decode cL_law 189 = .ok (.iload_n 3, 1) := by decide +kernel
theorem dL_law_190 : decode cL_law 190 = .ok (.iconst 2, 1) := by decide +kernel
theorem dL_law_191 : decode cL_law 191 = .ok (.iadd, 1) := by decide +kernel
theorem dL_law_192 : decode cL_law 192 = .ok (.iaload, 1) := by decide +kernel
theorem dL_law_193 : decode cL_law 193 = .ok (.invokevirtual 17, 3) := by decide +kernel
theorem dL_law_196 : decode cL_law 196 = .ok (.if_icmp .eq 974, 3) := by decide +kernel
theorem dL_law_199 : decode cL_law 199 = .ok (.iconst 0, 1) := by decide +kernel
theorem dL_law_200 : decode cL_law 200 = .ok (.ireturn, 1) := by decide +kernel
theorem dL_law_201 : decode cL_law 201 = .ok (.aload_n 1, 1) := by decide +kernel
theorem dL_law_202 : decode cL_law 202 = .ok (.invokevirtual 18, 3) := by decide +kernel
theorem dL_law_205 : decode cL_law 205 = .ok (.aload_n 2, 1) := by decide +kernel
theorem dL_law_206 : decode cL_law 206 = .ok (.invokevirtual 22, 3) := by decide +kernel
theorem dL_law_209 : decode cL_law 209 = .ok (.if_icmp .eq 961, 3) := by decide +kernel
theorem dL_law_212 : decode cL_law 212 = .ok (.iconst 0, 1) := by decide +kernel
theorem dL_law_213 : decode cL_law 213 = .ok (.ireturn, 1) := by decide +kernel
theorem dL_law_214 : decode cL_law 214 = .ok (.aload_n 1, 1) := by decide +kernel
theorem dL_law_215 : decode cL_law 215 = .ok (.aload_n 0, 1) := by decide +kernel
theorem dL_law_216 : decode cL_law 216 = .ok (.iload_n 3, 1) := by decide +kernel
theorem dL_law_217 : decode cL_law 217 = .ok (.iconst 1, 1) := by decide +kernel
theorem dL_law_218 : decode cL_law 218 = .ok (.iadd, 1) := by decide +kernel
theorem dL_law_219 : decode cL_law 219 = .ok (.iaload, 1) := by decide +kernel
theorem dL_law_220 : decode cL_law 220 = .ok (.invokevirtual 23, 3) := by decide +kernel
theorem dL_law_223 : decode cL_law 223 = .ok (.aload_n 2, 1) := by decide +kernel
theorem dL_law_224 : decode cL_law 224 = .ok (.aload_n 0, 1) := by decide +kernel
theorem dL_law_225 : decode cL_law 225 = .ok (.iload_n 3, 1) := by decide +kernel
theorem dL_law_226 : decode cL_law 226 = .ok (.iconst 1, 1) := by decide +kernel
theorem dL_law_227 : decode cL_law 227 = .ok (.iadd, 1) := by decide +kernel
theorem dL_law_228 : decode cL_law 228 = .ok (.iaload, 1) := by decide +kernel
theorem dL_law_229 : decode cL_law 229 = .ok (.invokevirtual 27, 3) := by decide +kernel
theorem dL_law_232 : decode cL_law 232 = .ok (.if_icmp .eq 938, 3) := by decide +kernel
theorem dL_law_235 : decode cL_law 235 = .ok (.iconst 0, 1) := by decide +kernel
theorem dL_law_236 : decode cL_law 236 = .ok (.ireturn, 1) := by decide +kernel
theorem dL_law_237 : decode cL_law 237 = .ok (.aload_n 1, 1) := by decide +kernel
theorem dL_law_238 : decode cL_law 238 = .ok (.aload_n 0, 1) := by decide +kernel
theorem dL_law_239 : decode cL_law 239 = .ok (.iload_n 3, 1) := by decide +kernel
theorem dL_law_240 : decode cL_law 240 = .ok (.iconst 1, 1) := by decide +kernel
theorem dL_law_241 : decode cL_law 241 = .ok (.iadd, 1) := by decide +kernel
theorem dL_law_242 : decode cL_law 242 = .ok (.iaload, 1) := by decide +kernel
theorem dL_law_243 : decode cL_law 243 = .ok (.aload_n 0, 1) := by decide +kernel
theorem dL_law_244 : decode cL_law 244 = .ok (.iload_n 3, 1) := by decide +kernel
theorem dL_law_245 : decode cL_law 245 = .ok (.iconst 2, 1) := by decide +kernel
theorem dL_law_246 : decode cL_law 246 = .ok (.iadd, 1) := by decide +kernel
theorem dL_law_247 : decode cL_law 247 = .ok (.iaload, 1) := by decide +kernel
theorem dL_law_248 : decode cL_law 248 = .ok (.invokevirtual 28, 3) := by decide +kernel
theorem dL_law_251 : decode cL_law 251 = .ok (.aload_n 2, 1) := by decide +kernel
theorem dL_law_252 : decode cL_law 252 = .ok (.aload_n 0, 1) := by decide +kernel
theorem dL_law_253 : decode cL_law 253 = .ok (.iload_n 3, 1) := by decide +kernel
theorem dL_law_254 : decode cL_law 254 = .ok (.iconst 1, 1) := by decide +kernel
theorem dL_law_255 : decode cL_law 255 = .ok (.iadd, 1) := by decide +kernel
theorem dL_law_256 : decode cL_law 256 = .ok (.iaload, 1) := by decide +kernel
theorem dL_law_257 : decode cL_law 257 = .ok (.aload_n 0, 1) := by decide +kernel
theorem dL_law_258 : decode cL_law 258 = .ok (.iload_n 3, 1) := by decide +kernel
theorem dL_law_259 : decode cL_law 259 = .ok (.iconst 2, 1) := by decide +kernel
theorem dL_law_260 : decode cL_law 260 = .ok (.iadd, 1) := by decide +kernel
theorem dL_law_261 : decode cL_law 261 = .ok (.iaload, 1) := by decide +kernel
theorem dL_law_262 : decode cL_law 262 = .ok (.invokevirtual 31, 3) := by decide +kernel
theorem dL_law_265 : decode cL_law 265 = .ok (.if_icmp .eq 905, 3) := by decide +kernel
theorem dL_law_268 : decode cL_law 268 = .ok (.iconst 0, 1) := by decide +kernel
theorem dL_law_269 : decode cL_law 269 = .ok (.ireturn, 1) := by decide +kernel
theorem dL_law_270 : decode cL_law 270 = .ok (.aload_n 1, 1) := by decide +kernel
theorem dL_law_271 : decode cL_law 271 = .ok (.aload_n 0, 1) := by decide +kernel
theorem dL_law_272 : decode cL_law 272 = .ok (.iload_n 3, 1) := by decide +kernel
theorem dL_law_273 : decode cL_law 273 = .ok (.iconst 1, 1) := by decide +kernel
theorem dL_law_274 : decode cL_law 274 = .ok (.iadd, 1) := by decide +kernel
theorem dL_law_275 : decode cL_law 275 = .ok (.iaload, 1) := by decide +kernel
theorem dL_law_276 : decode cL_law 276 = .ok (.aload_n 0, 1) := by decide +kernel
theorem dL_law_277 : decode cL_law 277 = .ok (.iload_n 3, 1) := by decide +kernel
theorem dL_law_278 : decode cL_law 278 = .ok (.iconst 2, 1) := by decide +kernel
theorem dL_law_279 : decode cL_law 279 = .ok (.iadd, 1) := by decide +kernel
theorem dL_law_280 : decode cL_law 280 = .ok (.iaload, 1) := by decide +kernel
theorem dL_law_281 : decode cL_law 281 = .ok (.aload_n 0, 1) := by decide +kernel
theorem dL_law_282 : decode cL_law 282 = .ok (.iload_n 3, 1) := by decide +kernel
theorem dL_law_283 : decode cL_law 283 = .ok (.iconst 3, 1) := by decide +kernel
theorem dL_law_284 : decode cL_law 284 = .ok (.iadd, 1) := by decide +kernel
theorem dL_law_285 : decode cL_law 285 = .ok (.iaload, 1) := by decide +kernel
theorem dL_law_286 : decode cL_law 286 = .ok (.invokevirtual 32, 3) := by decide +kernel
theorem dL_law_289 : decode cL_law 289 = .ok (.aload_n 2, 1) := by decide +kernel
theorem dL_law_290 : decode cL_law 290 = .ok (.aload_n 0, 1) := by decide +kernel
theorem dL_law_291 : decode cL_law 291 = .ok (.iload_n 3, 1) := by decide +kernel
theorem dL_law_292 : decode cL_law 292 = .ok (.iconst 1, 1) := by decide +kernel
theorem dL_law_293 : decode cL_law 293 = .ok (.iadd, 1) := by decide +kernel
theorem dL_law_294 : decode cL_law 294 = .ok (.iaload, 1) := by decide +kernel
theorem dL_law_295 : decode cL_law 295 = .ok (.aload_n 0, 1) := by decide +kernel
theorem dL_law_296 : decode cL_law 296 = .ok (.iload_n 3, 1) := by decide +kernel
theorem dL_law_297 : decode cL_law 297 = .ok (.iconst 2, 1) := by decide +kernel
theorem dL_law_298 : decode cL_law 298 = .ok (.iadd, 1) := by decide +kernel
theorem dL_law_299 : decode cL_law 299 = .ok (.iaload, 1) := by decide +kernel
theorem dL_law_300 : decode cL_law 300 = .ok (.aload_n 0, 1) := by decide +kernel
theorem dL_law_301 : decode cL_law 301 = .ok (.iload_n 3, 1) := by decide +kernel
theorem dL_law_302 : decode cL_law 302 = .ok (.iconst 3, 1) := by decide +kernel
theorem dL_law_303 : decode cL_law 303 = .ok (.iadd, 1) := by decide +kernel
theorem dL_law_304 : decode cL_law 304 = .ok (.iaload, 1) := by decide +kernel
theorem dL_law_305 : decode cL_law 305 = .ok (.invokevirtual 36, 3) := by decide +kernel
theorem dL_law_308 : decode cL_law 308 = .ok (.if_icmp .eq 862, 3) := by decide +kernel
theorem dL_law_311 : decode cL_law 311 = .ok (.iconst 0, 1) := by decide +kernel
theorem dL_law_312 : decode cL_law 312 = .ok (.ireturn, 1) := by decide +kernel
theorem dL_law_313 : decode cL_law 313 = .ok (.aload_n 1, 1) := by decide +kernel
theorem dL_law_314 : decode cL_law 314 = .ok (.aload_n 0, 1) := by decide +kernel
theorem dL_law_315 : decode cL_law 315 = .ok (.iload_n 3, 1) := by decide +kernel
theorem dL_law_316 : decode cL_law 316 = .ok (.iconst 1, 1) := by decide +kernel
theorem dL_law_317 : decode cL_law 317 = .ok (.iadd, 1) := by decide +kernel
theorem dL_law_318 : decode cL_law 318 = .ok (.iaload, 1) := by decide +kernel
theorem dL_law_319 : decode cL_law 319 = .ok (.aload_n 0, 1) := by decide +kernel
theorem dL_law_320 : decode cL_law 320 = .ok (.iload_n 3, 1) := by decide +kernel
theorem dL_law_321 : decode cL_law 321 = .ok (.iconst 2, 1) := by decide +kernel
theorem dL_law_322 : decode cL_law 322 = .ok (.iadd, 1) := by decide +kernel
theorem dL_law_323 : decode cL_law 323 = .ok (.iaload, 1) := by decide +kernel
theorem dL_law_324 : decode cL_law 324 = .ok (.invokevirtual 37, 3) := by decide +kernel
theorem dL_law_327 : decode cL_law 327 = .ok (.aload_n 2, 1) := by decide +kernel
theorem dL_law_328 : decode cL_law 328 = .ok (.aload_n 0, 1) := by decide +kernel
theorem dL_law_329 : decode cL_law 329 = .ok (.iload_n 3, 1) := by decide +kernel
theorem dL_law_330 : decode cL_law 330 = .ok (.iconst 1, 1) := by decide +kernel
theorem dL_law_331 : decode cL_law 331 = .ok (.iadd, 1) := by decide +kernel
theorem dL_law_332 : decode cL_law 332 = .ok (.iaload, 1) := by decide +kernel
theorem dL_law_333 : decode cL_law 333 = .ok (.aload_n 0, 1) := by decide +kernel
theorem dL_law_334 : decode cL_law 334 = .ok (.iload_n 3, 1) := by decide +kernel
theorem dL_law_335 : decode cL_law 335 = .ok (.iconst 2, 1) := by decide +kernel
theorem dL_law_336 : decode cL_law 336 = .ok (.iadd, 1) := by decide +kernel
theorem dL_law_337 : decode cL_law 337 = .ok (.iaload, 1) := by decide +kernel
theorem dL_law_338 : decode cL_law 338 = .ok (.invokevirtual 40, 3) := by decide +kernel
theorem dL_law_341 : decode cL_law 341 = .ok (.if_icmp .eq 829, 3) := by decide +kernel
theorem dL_law_344 : decode cL_law 344 = .ok (.iconst 0, 1) := by decide +kernel
theorem dL_law_345 : decode cL_law 345 = .ok (.ireturn, 1) := by decide +kernel
theorem dL_law_346 : decode cL_law 346 = .ok (.aload_n 1, 1) := by decide +kernel
theorem dL_law_347 : decode cL_law 347 = .ok (.aload_n 0, 1) := by decide +kernel
theorem dL_law_348 : decode cL_law 348 = .ok (.iload_n 3, 1) := by decide +kernel
theorem dL_law_349 : decode cL_law 349 = .ok (.iconst 1, 1) := by decide +kernel
theorem dL_law_350 : decode cL_law 350 = .ok (.iadd, 1) := by decide +kernel
theorem dL_law_351 : decode cL_law 351 = .ok (.iaload, 1) := by decide +kernel
theorem dL_law_352 : decode cL_law 352 = .ok (.invokevirtual 41, 3) := by decide +kernel
theorem dL_law_355 : decode cL_law 355 = .ok (.aload_n 2, 1) := by decide +kernel
theorem dL_law_356 : decode cL_law 356 = .ok (.aload_n 0, 1) := by decide +kernel
theorem dL_law_357 : decode cL_law 357 = .ok (.iload_n 3, 1) := by decide +kernel
theorem dL_law_358 : decode cL_law 358 = .ok (.iconst 1, 1) := by decide +kernel
theorem dL_law_359 : decode cL_law 359 = .ok (.iadd, 1) := by decide +kernel
theorem dL_law_360 : decode cL_law 360 = .ok (.iaload, 1) := by decide +kernel
theorem dL_law_361 : decode cL_law 361 = .ok (.invokevirtual 44, 3) := by decide +kernel
theorem dL_law_364 : decode cL_law 364 = .ok (.if_icmp .eq 806, 3) := by decide +kernel
theorem dL_law_367 : decode cL_law 367 = .ok (.iconst 0, 1) := by decide +kernel
theorem dL_law_368 : decode cL_law 368 = .ok (.ireturn, 1) := by decide +kernel
theorem dL_law_369 : decode cL_law 369 = .ok (.aload_n 1, 1) := by decide +kernel
theorem dL_law_370 : decode cL_law 370 = .ok (.aload_n 0, 1) := by decide +kernel
theorem dL_law_371 : decode cL_law 371 = .ok (.iload_n 3, 1) := by decide +kernel
theorem dL_law_372 : decode cL_law 372 = .ok (.iconst 1, 1) := by decide +kernel
theorem dL_law_373 : decode cL_law 373 = .ok (.iadd, 1) := by decide +kernel
theorem dL_law_374 : decode cL_law 374 = .ok (.iaload, 1) := by decide +kernel
theorem dL_law_375 : decode cL_law 375 = .ok (.aload_n 0, 1) := by decide +kernel
theorem dL_law_376 : decode cL_law 376 = .ok (.iload_n 3, 1) := by decide +kernel
theorem dL_law_377 : decode cL_law 377 = .ok (.iconst 2, 1) := by decide +kernel
theorem dL_law_378 : decode cL_law 378 = .ok (.iadd, 1) := by decide +kernel
theorem dL_law_379 : decode cL_law 379 = .ok (.iaload, 1) := by decide +kernel
theorem dL_law_380 : decode cL_law 380 = .ok (.invokevirtual 45, 3) := by decide +kernel
theorem dL_law_383 : decode cL_law 383 = .ok (.aload_n 2, 1) := by decide +kernel
theorem dL_law_384 : decode cL_law 384 = .ok (.aload_n 0, 1) := by decide +kernel
theorem dL_law_385 : decode cL_law 385 = .ok (.iload_n 3, 1) := by decide +kernel
theorem dL_law_386 : decode cL_law 386 = .ok (.iconst 1, 1) := by decide +kernel
theorem dL_law_387 : decode cL_law 387 = .ok (.iadd, 1) := by decide +kernel
theorem dL_law_388 : decode cL_law 388 = .ok (.iaload, 1) := by decide +kernel
theorem dL_law_389 : decode cL_law 389 = .ok (.aload_n 0, 1) := by decide +kernel
theorem dL_law_390 : decode cL_law 390 = .ok (.iload_n 3, 1) := by decide +kernel
theorem dL_law_391 : decode cL_law 391 = .ok (.iconst 2, 1) := by decide +kernel
theorem dL_law_392 : decode cL_law 392 = .ok (.iadd, 1) := by decide +kernel
theorem dL_law_393 : decode cL_law 393 = .ok (.iaload, 1) := by decide +kernel
theorem dL_law_394 : decode cL_law 394 = .ok (.invokevirtual 48, 3) := by decide +kernel
theorem dL_law_397 : decode cL_law 397 = .ok (.if_icmp .eq 773, 3) := by decide +kernel
theorem dL_law_400 : decode cL_law 400 = .ok (.iconst 0, 1) := by decide +kernel
theorem dL_law_401 : decode cL_law 401 = .ok (.ireturn, 1) := by decide +kernel
theorem dL_law_402 : decode cL_law 402 = .ok (.aload_n 1, 1) := by decide +kernel
theorem dL_law_403 : decode cL_law 403 = .ok (.aload_n 0, 1) := by decide +kernel
theorem dL_law_404 : decode cL_law 404 = .ok (.iload_n 3, 1) := by decide +kernel
theorem dL_law_405 : decode cL_law 405 = .ok (.iconst 1, 1) := by decide +kernel
theorem dL_law_406 : decode cL_law 406 = .ok (.iadd, 1) := by decide +kernel
theorem dL_law_407 : decode cL_law 407 = .ok (.iaload, 1) := by decide +kernel
theorem dL_law_408 : decode cL_law 408 = .ok (.aload_n 0, 1) := by decide +kernel
theorem dL_law_409 : decode cL_law 409 = .ok (.iload_n 3, 1) := by decide +kernel
theorem dL_law_410 : decode cL_law 410 = .ok (.iconst 2, 1) := by decide +kernel
theorem dL_law_411 : decode cL_law 411 = .ok (.iadd, 1) := by decide +kernel
theorem dL_law_412 : decode cL_law 412 = .ok (.iaload, 1) := by decide +kernel
theorem dL_law_413 : decode cL_law 413 = .ok (.invokevirtual 49, 3) := by decide +kernel
theorem dL_law_416 : decode cL_law 416 = .ok (.aload_n 2, 1) := by decide +kernel
theorem dL_law_417 : decode cL_law 417 = .ok (.aload_n 0, 1) := by decide +kernel
theorem dL_law_418 : decode cL_law 418 = .ok (.iload_n 3, 1) := by decide +kernel
theorem dL_law_419 : decode cL_law 419 = .ok (.iconst 1, 1) := by decide +kernel
theorem dL_law_420 : decode cL_law 420 = .ok (.iadd, 1) := by decide +kernel
theorem dL_law_421 : decode cL_law 421 = .ok (.iaload, 1) := by decide +kernel
theorem dL_law_422 : decode cL_law 422 = .ok (.aload_n 0, 1) := by decide +kernel
theorem dL_law_423 : decode cL_law 423 = .ok (.iload_n 3, 1) := by decide +kernel
theorem dL_law_424 : decode cL_law 424 = .ok (.iconst 2, 1) := by decide +kernel
theorem dL_law_425 : decode cL_law 425 = .ok (.iadd, 1) := by decide +kernel
theorem dL_law_426 : decode cL_law 426 = .ok (.iaload, 1) := by decide +kernel
theorem dL_law_427 : decode cL_law 427 = .ok (.invokevirtual 52, 3) := by decide +kernel
theorem dL_law_430 : decode cL_law 430 = .ok (.if_icmp .eq 740, 3) := by decide +kernel
theorem dL_law_433 : decode cL_law 433 = .ok (.iconst 0, 1) := by decide +kernel
theorem dL_law_434 : decode cL_law 434 = .ok (.ireturn, 1) := by decide +kernel
theorem dL_law_435 : decode cL_law 435 = .ok (.aload_n 1, 1) := by decide +kernel
theorem dL_law_436 : decode cL_law 436 = .ok (.aload_n 0, 1) := by decide +kernel
theorem dL_law_437 : decode cL_law 437 = .ok (.iload_n 3, 1) := by decide +kernel
theorem dL_law_438 : decode cL_law 438 = .ok (.iconst 1, 1) := by decide +kernel
theorem dL_law_439 : decode cL_law 439 = .ok (.iadd, 1) := by decide +kernel
theorem dL_law_440 : decode cL_law 440 = .ok (.iaload, 1) := by decide +kernel
theorem dL_law_441 : decode cL_law 441 = .ok (.aload_n 0, 1) := by decide +kernel
theorem dL_law_442 : decode cL_law 442 = .ok (.iload_n 3, 1) := by decide +kernel
theorem dL_law_443 : decode cL_law 443 = .ok (.iconst 2, 1) := by decide +kernel
theorem dL_law_444 : decode cL_law 444 = .ok (.iadd, 1) := by decide +kernel
theorem dL_law_445 : decode cL_law 445 = .ok (.iaload, 1) := by decide +kernel
theorem dL_law_446 : decode cL_law 446 = .ok (.aload_n 0, 1) := by decide +kernel
theorem dL_law_447 : decode cL_law 447 = .ok (.iload_n 3, 1) := by decide +kernel
theorem dL_law_448 : decode cL_law 448 = .ok (.iconst 3, 1) := by decide +kernel
theorem dL_law_449 : decode cL_law 449 = .ok (.iadd, 1) := by decide +kernel
theorem dL_law_450 : decode cL_law 450 = .ok (.iaload, 1) := by decide +kernel
theorem dL_law_451 : decode cL_law 451 = .ok (.invokevirtual 53, 3) := by decide +kernel
theorem dL_law_454 : decode cL_law 454 = .ok (.aload_n 2, 1) := by decide +kernel
theorem dL_law_455 : decode cL_law 455 = .ok (.aload_n 0, 1) := by decide +kernel
theorem dL_law_456 : decode cL_law 456 = .ok (.iload_n 3, 1) := by decide +kernel
theorem dL_law_457 : decode cL_law 457 = .ok (.iconst 1, 1) := by decide +kernel
theorem dL_law_458 : decode cL_law 458 = .ok (.iadd, 1) := by decide +kernel
theorem dL_law_459 : decode cL_law 459 = .ok (.iaload, 1) := by decide +kernel
theorem dL_law_460 : decode cL_law 460 = .ok (.aload_n 0, 1) := by decide +kernel
theorem dL_law_461 : decode cL_law 461 = .ok (.iload_n 3, 1) := by decide +kernel
theorem dL_law_462 : decode cL_law 462 = .ok (.iconst 2, 1) := by decide +kernel
theorem dL_law_463 : decode cL_law 463 = .ok (.iadd, 1) := by decide +kernel
theorem dL_law_464 : decode cL_law 464 = .ok (.iaload, 1) := by decide +kernel
theorem dL_law_465 : decode cL_law 465 = .ok (.aload_n 0, 1) := by decide +kernel
theorem dL_law_466 : decode cL_law 466 = .ok (.iload_n 3, 1) := by decide +kernel
theorem dL_law_467 : decode cL_law 467 = .ok (.iconst 3, 1) := by decide +kernel
theorem dL_law_468 : decode cL_law 468 = .ok (.iadd, 1) := by decide +kernel
theorem dL_law_469 : decode cL_law 469 = .ok (.iaload, 1) := by decide +kernel
theorem dL_law_470 : decode cL_law 470 = .ok (.invokevirtual 56, 3) := by decide +kernel
theorem dL_law_473 : decode cL_law 473 = .ok (.if_icmp .eq 697, 3) := by decide +kernel
theorem dL_law_476 : decode cL_law 476 = .ok (.iconst 0, 1) := by decide +kernel
theorem dL_law_477 : decode cL_law 477 = .ok (.ireturn, 1) := by decide +kernel
theorem dL_law_478 : decode cL_law 478 = .ok (.aload_n 1, 1) := by decide +kernel
theorem dL_law_479 : decode cL_law 479 = .ok (.aload_n 0, 1) := by decide +kernel
theorem dL_law_480 : decode cL_law 480 = .ok (.iload_n 3, 1) := by decide +kernel
theorem dL_law_481 : decode cL_law 481 = .ok (.iconst 1, 1) := by decide +kernel
theorem dL_law_482 : decode cL_law 482 = .ok (.iadd, 1) := by decide +kernel
theorem dL_law_483 : decode cL_law 483 = .ok (.iaload, 1) := by decide +kernel
theorem dL_law_484 : decode cL_law 484 = .ok (.aload_n 0, 1) := by decide +kernel
theorem dL_law_485 : decode cL_law 485 = .ok (.iload_n 3, 1) := by decide +kernel
theorem dL_law_486 : decode cL_law 486 = .ok (.iconst 2, 1) := by decide +kernel
theorem dL_law_487 : decode cL_law 487 = .ok (.iadd, 1) := by decide +kernel
theorem dL_law_488 : decode cL_law 488 = .ok (.iaload, 1) := by decide +kernel
theorem dL_law_489 : decode cL_law 489 = .ok (.invokevirtual 57, 3) := by decide +kernel
theorem dL_law_492 : decode cL_law 492 = .ok (.aload_n 2, 1) := by decide +kernel
theorem dL_law_493 : decode cL_law 493 = .ok (.aload_n 0, 1) := by decide +kernel
theorem dL_law_494 : decode cL_law 494 = .ok (.iload_n 3, 1) := by decide +kernel
theorem dL_law_495 : decode cL_law 495 = .ok (.iconst 1, 1) := by decide +kernel
theorem dL_law_496 : decode cL_law 496 = .ok (.iadd, 1) := by decide +kernel
theorem dL_law_497 : decode cL_law 497 = .ok (.iaload, 1) := by decide +kernel
theorem dL_law_498 : decode cL_law 498 = .ok (.aload_n 0, 1) := by decide +kernel
theorem dL_law_499 : decode cL_law 499 = .ok (.iload_n 3, 1) := by decide +kernel
theorem dL_law_500 : decode cL_law 500 = .ok (.iconst 2, 1) := by decide +kernel
theorem dL_law_501 : decode cL_law 501 = .ok (.iadd, 1) := by decide +kernel
theorem dL_law_502 : decode cL_law 502 = .ok (.iaload, 1) := by decide +kernel
theorem dL_law_503 : decode cL_law 503 = .ok (.invokevirtual 60, 3) := by decide +kernel
theorem dL_law_506 : decode cL_law 506 = .ok (.if_icmp .eq 664, 3) := by decide +kernel
theorem dL_law_509 : decode cL_law 509 = .ok (.iconst 0, 1) := by decide +kernel
theorem dL_law_510 : decode cL_law 510 = .ok (.ireturn, 1) := by decide +kernel
theorem dL_law_511 : decode cL_law 511 = .ok (.aload_n 1, 1) := by decide +kernel
theorem dL_law_512 : decode cL_law 512 = .ok (.aload_n 0, 1) := by decide +kernel
theorem dL_law_513 : decode cL_law 513 = .ok (.iload_n 3, 1) := by decide +kernel
theorem dL_law_514 : decode cL_law 514 = .ok (.iconst 1, 1) := by decide +kernel
theorem dL_law_515 : decode cL_law 515 = .ok (.iadd, 1) := by decide +kernel
theorem dL_law_516 : decode cL_law 516 = .ok (.iaload, 1) := by decide +kernel
theorem dL_law_517 : decode cL_law 517 = .ok (.invokevirtual 61, 3) := by decide +kernel
theorem dL_law_520 : decode cL_law 520 = .ok (.aload_n 2, 1) := by decide +kernel
theorem dL_law_521 : decode cL_law 521 = .ok (.aload_n 0, 1) := by decide +kernel
theorem dL_law_522 : decode cL_law 522 = .ok (.iload_n 3, 1) := by decide +kernel
theorem dL_law_523 : decode cL_law 523 = .ok (.iconst 1, 1) := by decide +kernel
theorem dL_law_524 : decode cL_law 524 = .ok (.iadd, 1) := by decide +kernel
theorem dL_law_525 : decode cL_law 525 = .ok (.iaload, 1) := by decide +kernel
theorem dL_law_526 : decode cL_law 526 = .ok (.invokevirtual 64, 3) := by decide +kernel
theorem dL_law_529 : decode cL_law 529 = .ok (.if_icmp .eq 641, 3) := by decide +kernel
theorem dL_law_532 : decode cL_law 532 = .ok (.iconst 0, 1) := by decide +kernel
theorem dL_law_533 : decode cL_law 533 = .ok (.ireturn, 1) := by decide +kernel
theorem dL_law_534 : decode cL_law 534 = .ok (.aload_n 1, 1) := by decide +kernel
theorem dL_law_535 : decode cL_law 535 = .ok (.aload_n 0, 1) := by decide +kernel
theorem dL_law_536 : decode cL_law 536 = .ok (.iload_n 3, 1) := by decide +kernel
theorem dL_law_537 : decode cL_law 537 = .ok (.iconst 1, 1) := by decide +kernel
theorem dL_law_538 : decode cL_law 538 = .ok (.iadd, 1) := by decide +kernel
theorem dL_law_539 : decode cL_law 539 = .ok (.iaload, 1) := by decide +kernel
theorem dL_law_540 : decode cL_law 540 = .ok (.invokevirtual 65, 3) := by decide +kernel
theorem dL_law_543 : decode cL_law 543 = .ok (.aload_n 2, 1) := by decide +kernel
theorem dL_law_544 : decode cL_law 544 = .ok (.aload_n 0, 1) := by decide +kernel
theorem dL_law_545 : decode cL_law 545 = .ok (.iload_n 3, 1) := by decide +kernel
theorem dL_law_546 : decode cL_law 546 = .ok (.iconst 1, 1) := by decide +kernel
theorem dL_law_547 : decode cL_law 547 = .ok (.iadd, 1) := by decide +kernel
theorem dL_law_548 : decode cL_law 548 = .ok (.iaload, 1) := by decide +kernel
theorem dL_law_549 : decode cL_law 549 = .ok (.invokevirtual 68, 3) := by decide +kernel
theorem dL_law_552 : decode cL_law 552 = .ok (.if_icmp .eq 618, 3) := by decide +kernel
theorem dL_law_555 : decode cL_law 555 = .ok (.iconst 0, 1) := by decide +kernel
theorem dL_law_556 : decode cL_law 556 = .ok (.ireturn, 1) := by decide +kernel
theorem dL_law_557 : decode cL_law 557 = .ok (.aload_n 1, 1) := by decide +kernel
theorem dL_law_558 : decode cL_law 558 = .ok (.aload_n 0, 1) := by decide +kernel
theorem dL_law_559 : decode cL_law 559 = .ok (.iload_n 3, 1) := by decide +kernel
theorem dL_law_560 : decode cL_law 560 = .ok (.iconst 1, 1) := by decide +kernel
theorem dL_law_561 : decode cL_law 561 = .ok (.iadd, 1) := by decide +kernel
theorem dL_law_562 : decode cL_law 562 = .ok (.iaload, 1) := by decide +kernel
theorem dL_law_563 : decode cL_law 563 = .ok (.aload_n 0, 1) := by decide +kernel
theorem dL_law_564 : decode cL_law 564 = .ok (.iload_n 3, 1) := by decide +kernel
theorem dL_law_565 : decode cL_law 565 = .ok (.iconst 2, 1) := by decide +kernel
theorem dL_law_566 : decode cL_law 566 = .ok (.iadd, 1) := by decide +kernel
theorem dL_law_567 : decode cL_law 567 = .ok (.iaload, 1) := by decide +kernel
theorem dL_law_568 : decode cL_law 568 = .ok (.invokevirtual 69, 3) := by decide +kernel
theorem dL_law_571 : decode cL_law 571 = .ok (.aload_n 2, 1) := by decide +kernel
theorem dL_law_572 : decode cL_law 572 = .ok (.aload_n 0, 1) := by decide +kernel
theorem dL_law_573 : decode cL_law 573 = .ok (.iload_n 3, 1) := by decide +kernel
theorem dL_law_574 : decode cL_law 574 = .ok (.iconst 1, 1) := by decide +kernel
theorem dL_law_575 : decode cL_law 575 = .ok (.iadd, 1) := by decide +kernel
theorem dL_law_576 : decode cL_law 576 = .ok (.iaload, 1) := by decide +kernel
theorem dL_law_577 : decode cL_law 577 = .ok (.aload_n 0, 1) := by decide +kernel
theorem dL_law_578 : decode cL_law 578 = .ok (.iload_n 3, 1) := by decide +kernel
theorem dL_law_579 : decode cL_law 579 = .ok (.iconst 2, 1) := by decide +kernel
theorem dL_law_580 : decode cL_law 580 = .ok (.iadd, 1) := by decide +kernel
theorem dL_law_581 : decode cL_law 581 = .ok (.iaload, 1) := by decide +kernel
theorem dL_law_582 : decode cL_law 582 = .ok (.invokevirtual 72, 3) := by decide +kernel
theorem dL_law_585 : decode cL_law 585 = .ok (.if_icmp .eq 585, 3) := by decide +kernel
theorem dL_law_588 : decode cL_law 588 = .ok (.iconst 0, 1) := by decide +kernel
theorem dL_law_589 : decode cL_law 589 = .ok (.ireturn, 1) := by decide +kernel
theorem dL_law_590 : decode cL_law 590 = .ok (.aload_n 1, 1) := by decide +kernel
theorem dL_law_591 : decode cL_law 591 = .ok (.aload_n 0, 1) := by decide +kernel
theorem dL_law_592 : decode cL_law 592 = .ok (.iload_n 3, 1) := by decide +kernel
theorem dL_law_593 : decode cL_law 593 = .ok (.iconst 1, 1) := by decide +kernel
theorem dL_law_594 : decode cL_law 594 = .ok (.iadd, 1) := by decide +kernel
theorem dL_law_595 : decode cL_law 595 = .ok (.iaload, 1) := by decide +kernel
theorem dL_law_596 : decode cL_law 596 = .ok (.aload_n 0, 1) := by decide +kernel
theorem dL_law_597 : decode cL_law 597 = .ok (.iload_n 3, 1) := by decide +kernel
theorem dL_law_598 : decode cL_law 598 = .ok (.iconst 2, 1) := by decide +kernel
theorem dL_law_599 : decode cL_law 599 = .ok (.iadd, 1) := by decide +kernel
theorem dL_law_600 : decode cL_law 600 = .ok (.iaload, 1) := by decide +kernel
theorem dL_law_601 : decode cL_law 601 = .ok (.aload_n 0, 1) := by decide +kernel
theorem dL_law_602 : decode cL_law 602 = .ok (.iload_n 3, 1) := by decide +kernel
theorem dL_law_603 : decode cL_law 603 = .ok (.iconst 3, 1) := by decide +kernel
theorem dL_law_604 : decode cL_law 604 = .ok (.iadd, 1) := by decide +kernel
theorem dL_law_605 : decode cL_law 605 = .ok (.iaload, 1) := by decide +kernel
theorem dL_law_606 : decode cL_law 606 = .ok (.invokevirtual 73, 3) := by decide +kernel
theorem dL_law_609 : decode cL_law 609 = .ok (.aload_n 2, 1) := by decide +kernel
theorem dL_law_610 : decode cL_law 610 = .ok (.aload_n 0, 1) := by decide +kernel
theorem dL_law_611 : decode cL_law 611 = .ok (.iload_n 3, 1) := by decide +kernel
theorem dL_law_612 : decode cL_law 612 = .ok (.iconst 1, 1) := by decide +kernel
theorem dL_law_613 : decode cL_law 613 = .ok (.iadd, 1) := by decide +kernel
theorem dL_law_614 : decode cL_law 614 = .ok (.iaload, 1) := by decide +kernel
theorem dL_law_615 : decode cL_law 615 = .ok (.aload_n 0, 1) := by decide +kernel
theorem dL_law_616 : decode cL_law 616 = .ok (.iload_n 3, 1) := by decide +kernel
theorem dL_law_617 : decode cL_law 617 = .ok (.iconst 2, 1) := by decide +kernel
theorem dL_law_618 : decode cL_law 618 = .ok (.iadd, 1) := by decide +kernel
theorem dL_law_619 : decode cL_law 619 = .ok (.iaload, 1) := by decide +kernel
theorem dL_law_620 : decode cL_law 620 = .ok (.aload_n 0, 1) := by decide +kernel
theorem dL_law_621 : decode cL_law 621 = .ok (.iload_n 3, 1) := by decide +kernel
theorem dL_law_622 : decode cL_law 622 = .ok (.iconst 3, 1) := by decide +kernel
theorem dL_law_623 : decode cL_law 623 = .ok (.iadd, 1) := by decide +kernel
theorem dL_law_624 : decode cL_law 624 = .ok (.iaload, 1) := by decide +kernel
theorem dL_law_625 : decode cL_law 625 = .ok (.invokevirtual 76, 3) := by decide +kernel
theorem dL_law_628 : decode cL_law 628 = .ok (.if_icmp .eq 542, 3) := by decide +kernel
theorem dL_law_631 : decode cL_law 631 = .ok (.iconst 0, 1) := by decide +kernel
theorem dL_law_632 : decode cL_law 632 = .ok (.ireturn, 1) := by decide +kernel
theorem dL_law_633 : decode cL_law 633 = .ok (.aload_n 1, 1) := by decide +kernel
theorem dL_law_634 : decode cL_law 634 = .ok (.aload_n 0, 1) := by decide +kernel
theorem dL_law_635 : decode cL_law 635 = .ok (.iload_n 3, 1) := by decide +kernel
theorem dL_law_636 : decode cL_law 636 = .ok (.iconst 1, 1) := by decide +kernel
theorem dL_law_637 : decode cL_law 637 = .ok (.iadd, 1) := by decide +kernel
theorem dL_law_638 : decode cL_law 638 = .ok (.iaload, 1) := by decide +kernel
theorem dL_law_639 : decode cL_law 639 = .ok (.invokevirtual 77, 3) := by decide +kernel
theorem dL_law_642 : decode cL_law 642 = .ok (.aload_n 2, 1) := by decide +kernel
theorem dL_law_643 : decode cL_law 643 = .ok (.aload_n 0, 1) := by decide +kernel
theorem dL_law_644 : decode cL_law 644 = .ok (.iload_n 3, 1) := by decide +kernel
theorem dL_law_645 : decode cL_law 645 = .ok (.iconst 1, 1) := by decide +kernel
theorem dL_law_646 : decode cL_law 646 = .ok (.iadd, 1) := by decide +kernel
theorem dL_law_647 : decode cL_law 647 = .ok (.iaload, 1) := by decide +kernel
theorem dL_law_648 : decode cL_law 648 = .ok (.invokevirtual 80, 3) := by decide +kernel
theorem dL_law_651 : decode cL_law 651 = .ok (.if_icmp .eq 519, 3) := by decide +kernel
theorem dL_law_654 : decode cL_law 654 = .ok (.iconst 0, 1) := by decide +kernel
theorem dL_law_655 : decode cL_law 655 = .ok (.ireturn, 1) := by decide +kernel
theorem dL_law_656 : decode cL_law 656 = .ok (.aload_n 1, 1) := by decide +kernel
theorem dL_law_657 : decode cL_law 657 = .ok (.aload_n 0, 1) := by decide +kernel
theorem dL_law_658 : decode cL_law 658 = .ok (.iload_n 3, 1) := by decide +kernel
theorem dL_law_659 : decode cL_law 659 = .ok (.iconst 1, 1) := by decide +kernel
theorem dL_law_660 : decode cL_law 660 = .ok (.iadd, 1) := by decide +kernel
theorem dL_law_661 : decode cL_law 661 = .ok (.iaload, 1) := by decide +kernel
theorem dL_law_662 : decode cL_law 662 = .ok (.invokevirtual 81, 3) := by decide +kernel
theorem dL_law_665 : decode cL_law 665 = .ok (.aload_n 2, 1) := by decide +kernel
theorem dL_law_666 : decode cL_law 666 = .ok (.aload_n 0, 1) := by decide +kernel
theorem dL_law_667 : decode cL_law 667 = .ok (.iload_n 3, 1) := by decide +kernel
theorem dL_law_668 : decode cL_law 668 = .ok (.iconst 1, 1) := by decide +kernel
theorem dL_law_669 : decode cL_law 669 = .ok (.iadd, 1) := by decide +kernel
theorem dL_law_670 : decode cL_law 670 = .ok (.iaload, 1) := by decide +kernel
theorem dL_law_671 : decode cL_law 671 = .ok (.invokevirtual 84, 3) := by decide +kernel
theorem dL_law_674 : decode cL_law 674 = .ok (.if_icmp .eq 496, 3) := by decide +kernel
theorem dL_law_677 : decode cL_law 677 = .ok (.iconst 0, 1) := by decide +kernel
theorem dL_law_678 : decode cL_law 678 = .ok (.ireturn, 1) := by decide +kernel
theorem dL_law_679 : decode cL_law 679 = .ok (.aload_n 1, 1) := by decide +kernel
theorem dL_law_680 : decode cL_law 680 = .ok (.aload_n 0, 1) := by decide +kernel
theorem dL_law_681 : decode cL_law 681 = .ok (.iload_n 3, 1) := by decide +kernel
theorem dL_law_682 : decode cL_law 682 = .ok (.iconst 1, 1) := by decide +kernel
theorem dL_law_683 : decode cL_law 683 = .ok (.iadd, 1) := by decide +kernel
theorem dL_law_684 : decode cL_law 684 = .ok (.iaload, 1) := by decide +kernel
theorem dL_law_685 : decode cL_law 685 = .ok (.aload_n 0, 1) := by decide +kernel
theorem dL_law_686 : decode cL_law 686 = .ok (.iload_n 3, 1) := by decide +kernel
theorem dL_law_687 : decode cL_law 687 = .ok (.iconst 2, 1) := by decide +kernel
theorem dL_law_688 : decode cL_law 688 = .ok (.iadd, 1) := by decide +kernel
theorem dL_law_689 : decode cL_law 689 = .ok (.iaload, 1) := by decide +kernel
theorem dL_law_690 : decode cL_law 690 = .ok (.invokevirtual 85, 3) := by decide +kernel
theorem dL_law_693 : decode cL_law 693 = .ok (.aload_n 2, 1) := by decide +kernel
theorem dL_law_694 : decode cL_law 694 = .ok (.aload_n 0, 1) := by decide +kernel
theorem dL_law_695 : decode cL_law 695 = .ok (.iload_n 3, 1) := by decide +kernel
theorem dL_law_696 : decode cL_law 696 = .ok (.iconst 1, 1) := by decide +kernel
theorem dL_law_697 : decode cL_law 697 = .ok (.iadd, 1) := by decide +kernel
theorem dL_law_698 : decode cL_law 698 = .ok (.iaload, 1) := by decide +kernel
theorem dL_law_699 : decode cL_law 699 = .ok (.aload_n 0, 1) := by decide +kernel
theorem dL_law_700 : decode cL_law 700 = .ok (.iload_n 3, 1) := by decide +kernel
theorem dL_law_701 : decode cL_law 701 = .ok (.iconst 2, 1) := by decide +kernel
theorem dL_law_702 : decode cL_law 702 = .ok (.iadd, 1) := by decide +kernel
theorem dL_law_703 : decode cL_law 703 = .ok (.iaload, 1) := by decide +kernel
theorem dL_law_704 : decode cL_law 704 = .ok (.invokevirtual 89, 3) := by decide +kernel
theorem dL_law_707 : decode cL_law 707 = .ok (.lcmp, 1) := by decide +kernel
theorem dL_law_708 : decode cL_law 708 = .ok (.ifCond .eq 462, 3) := by decide +kernel
theorem dL_law_711 : decode cL_law 711 = .ok (.iconst 0, 1) := by decide +kernel
theorem dL_law_712 : decode cL_law 712 = .ok (.ireturn, 1) := by decide +kernel
theorem dL_law_713 : decode cL_law 713 = .ok (.aload_n 1, 1) := by decide +kernel
theorem dL_law_714 : decode cL_law 714 = .ok (.aload_n 0, 1) := by decide +kernel
theorem dL_law_715 : decode cL_law 715 = .ok (.iload_n 3, 1) := by decide +kernel
theorem dL_law_716 : decode cL_law 716 = .ok (.iconst 1, 1) := by decide +kernel
theorem dL_law_717 : decode cL_law 717 = .ok (.iadd, 1) := by decide +kernel
theorem dL_law_718 : decode cL_law 718 = .ok (.iaload, 1) := by decide +kernel
theorem dL_law_719 : decode cL_law 719 = .ok (.aload_n 0, 1) := by decide +kernel
theorem dL_law_720 : decode cL_law 720 = .ok (.iload_n 3, 1) := by decide +kernel
theorem dL_law_721 : decode cL_law 721 = .ok (.iconst 2, 1) := by decide +kernel
theorem dL_law_722 : decode cL_law 722 = .ok (.iadd, 1) := by decide +kernel
theorem dL_law_723 : decode cL_law 723 = .ok (.iaload, 1) := by decide +kernel
theorem dL_law_724 : decode cL_law 724 = .ok (.aload_n 0, 1) := by decide +kernel
theorem dL_law_725 : decode cL_law 725 = .ok (.iload_n 3, 1) := by decide +kernel
theorem dL_law_726 : decode cL_law 726 = .ok (.iconst 3, 1) := by decide +kernel
theorem dL_law_727 : decode cL_law 727 = .ok (.iadd, 1) := by decide +kernel
theorem dL_law_728 : decode cL_law 728 = .ok (.iaload, 1) := by decide +kernel
theorem dL_law_729 : decode cL_law 729 = .ok (.aload_n 0, 1) := by decide +kernel
theorem dL_law_730 : decode cL_law 730 = .ok (.iload_n 3, 1) := by decide +kernel
theorem dL_law_731 : decode cL_law 731 = .ok (.iconst 4, 1) := by decide +kernel
theorem dL_law_732 : decode cL_law 732 = .ok (.iadd, 1) := by decide +kernel
theorem dL_law_733 : decode cL_law 733 = .ok (.iaload, 1) := by decide +kernel
theorem dL_law_734 : decode cL_law 734 = .ok (.invokevirtual 90, 3) := by decide +kernel
theorem dL_law_737 : decode cL_law 737 = .ok (.aload_n 2, 1) := by decide +kernel
theorem dL_law_738 : decode cL_law 738 = .ok (.aload_n 0, 1) := by decide +kernel
theorem dL_law_739 : decode cL_law 739 = .ok (.iload_n 3, 1) := by decide +kernel
theorem dL_law_740 : decode cL_law 740 = .ok (.iconst 1, 1) := by decide +kernel
theorem dL_law_741 : decode cL_law 741 = .ok (.iadd, 1) := by decide +kernel
theorem dL_law_742 : decode cL_law 742 = .ok (.iaload, 1) := by decide +kernel
theorem dL_law_743 : decode cL_law 743 = .ok (.aload_n 0, 1) := by decide +kernel
theorem dL_law_744 : decode cL_law 744 = .ok (.iload_n 3, 1) := by decide +kernel
theorem dL_law_745 : decode cL_law 745 = .ok (.iconst 2, 1) := by decide +kernel
theorem dL_law_746 : decode cL_law 746 = .ok (.iadd, 1) := by decide +kernel
theorem dL_law_747 : decode cL_law 747 = .ok (.iaload, 1) := by decide +kernel
theorem dL_law_748 : decode cL_law 748 = .ok (.aload_n 0, 1) := by decide +kernel
theorem dL_law_749 : decode cL_law 749 = .ok (.iload_n 3, 1) := by decide +kernel
theorem dL_law_750 : decode cL_law 750 = .ok (.iconst 3, 1) := by decide +kernel
theorem dL_law_751 : decode cL_law 751 = .ok (.iadd, 1) := by decide +kernel
theorem dL_law_752 : decode cL_law 752 = .ok (.iaload, 1) := by decide +kernel
theorem dL_law_753 : decode cL_law 753 = .ok (.aload_n 0, 1) := by decide +kernel
theorem dL_law_754 : decode cL_law 754 = .ok (.iload_n 3, 1) := by decide +kernel
theorem dL_law_755 : decode cL_law 755 = .ok (.iconst 4, 1) := by decide +kernel
theorem dL_law_756 : decode cL_law 756 = .ok (.iadd, 1) := by decide +kernel
theorem dL_law_757 : decode cL_law 757 = .ok (.iaload, 1) := by decide +kernel
theorem dL_law_758 : decode cL_law 758 = .ok (.invokevirtual 94, 3) := by decide +kernel
theorem dL_law_761 : decode cL_law 761 = .ok (.if_icmp .eq 409, 3) := by decide +kernel
theorem dL_law_764 : decode cL_law 764 = .ok (.iconst 0, 1) := by decide +kernel
theorem dL_law_765 : decode cL_law 765 = .ok (.ireturn, 1) := by decide +kernel
theorem dL_law_766 : decode cL_law 766 = .ok (.aload_n 1, 1) := by decide +kernel
theorem dL_law_767 : decode cL_law 767 = .ok (.aload_n 0, 1) := by decide +kernel
theorem dL_law_768 : decode cL_law 768 = .ok (.iload_n 3, 1) := by decide +kernel
theorem dL_law_769 : decode cL_law 769 = .ok (.iconst 1, 1) := by decide +kernel
theorem dL_law_770 : decode cL_law 770 = .ok (.iadd, 1) := by decide +kernel
theorem dL_law_771 : decode cL_law 771 = .ok (.iaload, 1) := by decide +kernel
theorem dL_law_772 : decode cL_law 772 = .ok (.aload_n 0, 1) := by decide +kernel
theorem dL_law_773 : decode cL_law 773 = .ok (.iload_n 3, 1) := by decide +kernel
theorem dL_law_774 : decode cL_law 774 = .ok (.iconst 2, 1) := by decide +kernel
theorem dL_law_775 : decode cL_law 775 = .ok (.iadd, 1) := by decide +kernel
theorem dL_law_776 : decode cL_law 776 = .ok (.iaload, 1) := by decide +kernel
theorem dL_law_777 : decode cL_law 777 = .ok (.aload_n 0, 1) := by decide +kernel
theorem dL_law_778 : decode cL_law 778 = .ok (.iload_n 3, 1) := by decide +kernel
theorem dL_law_779 : decode cL_law 779 = .ok (.iconst 3, 1) := by decide +kernel
theorem dL_law_780 : decode cL_law 780 = .ok (.iadd, 1) := by decide +kernel
theorem dL_law_781 : decode cL_law 781 = .ok (.iaload, 1) := by decide +kernel
theorem dL_law_782 : decode cL_law 782 = .ok (.invokevirtual 95, 3) := by decide +kernel
theorem dL_law_785 : decode cL_law 785 = .ok (.aload_n 2, 1) := by decide +kernel
theorem dL_law_786 : decode cL_law 786 = .ok (.aload_n 0, 1) := by decide +kernel
theorem dL_law_787 : decode cL_law 787 = .ok (.iload_n 3, 1) := by decide +kernel
theorem dL_law_788 : decode cL_law 788 = .ok (.iconst 1, 1) := by decide +kernel
theorem dL_law_789 : decode cL_law 789 = .ok (.iadd, 1) := by decide +kernel
theorem dL_law_790 : decode cL_law 790 = .ok (.iaload, 1) := by decide +kernel
theorem dL_law_791 : decode cL_law 791 = .ok (.aload_n 0, 1) := by decide +kernel
theorem dL_law_792 : decode cL_law 792 = .ok (.iload_n 3, 1) := by decide +kernel
theorem dL_law_793 : decode cL_law 793 = .ok (.iconst 2, 1) := by decide +kernel
theorem dL_law_794 : decode cL_law 794 = .ok (.iadd, 1) := by decide +kernel
theorem dL_law_795 : decode cL_law 795 = .ok (.iaload, 1) := by decide +kernel
theorem dL_law_796 : decode cL_law 796 = .ok (.aload_n 0, 1) := by decide +kernel
theorem dL_law_797 : decode cL_law 797 = .ok (.iload_n 3, 1) := by decide +kernel
theorem dL_law_798 : decode cL_law 798 = .ok (.iconst 3, 1) := by decide +kernel
theorem dL_law_799 : decode cL_law 799 = .ok (.iadd, 1) := by decide +kernel
theorem dL_law_800 : decode cL_law 800 = .ok (.iaload, 1) := by decide +kernel
theorem dL_law_801 : decode cL_law 801 = .ok (.invokevirtual 98, 3) := by decide +kernel
theorem dL_law_804 : decode cL_law 804 = .ok (.if_icmp .eq 366, 3) := by decide +kernel
theorem dL_law_807 : decode cL_law 807 = .ok (.iconst 0, 1) := by decide +kernel
theorem dL_law_808 : decode cL_law 808 = .ok (.ireturn, 1) := by decide +kernel
theorem dL_law_809 : decode cL_law 809 = .ok (.aload_n 1, 1) := by decide +kernel
theorem dL_law_810 : decode cL_law 810 = .ok (.invokevirtual 99, 3) := by decide +kernel
theorem dL_law_813 : decode cL_law 813 = .ok (.aload_n 2, 1) := by decide +kernel
theorem dL_law_814 : decode cL_law 814 = .ok (.invokevirtual 102, 3) := by decide +kernel
theorem dL_law_817 : decode cL_law 817 = .ok (.if_icmp .eq 353, 3) := by decide +kernel
theorem dL_law_820 : decode cL_law 820 = .ok (.iconst 0, 1) := by decide +kernel
theorem dL_law_821 : decode cL_law 821 = .ok (.ireturn, 1) := by decide +kernel
theorem dL_law_822 : decode cL_law 822 = .ok (.aload_n 1, 1) := by decide +kernel
theorem dL_law_823 : decode cL_law 823 = .ok (.invokevirtual 103, 3) := by decide +kernel
theorem dL_law_826 : decode cL_law 826 = .ok (.aload_n 2, 1) := by decide +kernel
theorem dL_law_827 : decode cL_law 827 = .ok (.invokevirtual 106, 3) := by decide +kernel
theorem dL_law_830 : decode cL_law 830 = .ok (.if_icmp .eq 340, 3) := by decide +kernel
theorem dL_law_833 : decode cL_law 833 = .ok (.iconst 0, 1) := by decide +kernel
theorem dL_law_834 : decode cL_law 834 = .ok (.ireturn, 1) := by decide +kernel
theorem dL_law_835 : decode cL_law 835 = .ok (.aload_n 1, 1) := by decide +kernel
theorem dL_law_836 : decode cL_law 836 = .ok (.aload_n 0, 1) := by decide +kernel
theorem dL_law_837 : decode cL_law 837 = .ok (.iload_n 3, 1) := by decide +kernel
theorem dL_law_838 : decode cL_law 838 = .ok (.iconst 1, 1) := by decide +kernel
theorem dL_law_839 : decode cL_law 839 = .ok (.iadd, 1) := by decide +kernel
theorem dL_law_840 : decode cL_law 840 = .ok (.iaload, 1) := by decide +kernel
theorem dL_law_841 : decode cL_law 841 = .ok (.aload_n 0, 1) := by decide +kernel
theorem dL_law_842 : decode cL_law 842 = .ok (.iload_n 3, 1) := by decide +kernel
theorem dL_law_843 : decode cL_law 843 = .ok (.iconst 2, 1) := by decide +kernel
theorem dL_law_844 : decode cL_law 844 = .ok (.iadd, 1) := by decide +kernel
theorem dL_law_845 : decode cL_law 845 = .ok (.iaload, 1) := by decide +kernel
theorem dL_law_846 : decode cL_law 846 = .ok (.aload_n 0, 1) := by decide +kernel
theorem dL_law_847 : decode cL_law 847 = .ok (.iload_n 3, 1) := by decide +kernel
theorem dL_law_848 : decode cL_law 848 = .ok (.iconst 3, 1) := by decide +kernel
theorem dL_law_849 : decode cL_law 849 = .ok (.iadd, 1) := by decide +kernel
theorem dL_law_850 : decode cL_law 850 = .ok (.iaload, 1) := by decide +kernel
theorem dL_law_851 : decode cL_law 851 = .ok (.invokevirtual 107, 3) := by decide +kernel
theorem dL_law_854 : decode cL_law 854 = .ok (.aload_n 2, 1) := by decide +kernel
theorem dL_law_855 : decode cL_law 855 = .ok (.aload_n 0, 1) := by decide +kernel
theorem dL_law_856 : decode cL_law 856 = .ok (.iload_n 3, 1) := by decide +kernel
theorem dL_law_857 : decode cL_law 857 = .ok (.iconst 1, 1) := by decide +kernel
theorem dL_law_858 : decode cL_law 858 = .ok (.iadd, 1) := by decide +kernel
theorem dL_law_859 : decode cL_law 859 = .ok (.iaload, 1) := by decide +kernel
theorem dL_law_860 : decode cL_law 860 = .ok (.aload_n 0, 1) := by decide +kernel
theorem dL_law_861 : decode cL_law 861 = .ok (.iload_n 3, 1) := by decide +kernel
theorem dL_law_862 : decode cL_law 862 = .ok (.iconst 2, 1) := by decide +kernel
theorem dL_law_863 : decode cL_law 863 = .ok (.iadd, 1) := by decide +kernel
theorem dL_law_864 : decode cL_law 864 = .ok (.iaload, 1) := by decide +kernel
theorem dL_law_865 : decode cL_law 865 = .ok (.aload_n 0, 1) := by decide +kernel
theorem dL_law_866 : decode cL_law 866 = .ok (.iload_n 3, 1) := by decide +kernel
theorem dL_law_867 : decode cL_law 867 = .ok (.iconst 3, 1) := by decide +kernel
theorem dL_law_868 : decode cL_law 868 = .ok (.iadd, 1) := by decide +kernel
theorem dL_law_869 : decode cL_law 869 = .ok (.iaload, 1) := by decide +kernel
theorem dL_law_870 : decode cL_law 870 = .ok (.invokevirtual 110, 3) := by decide +kernel
theorem dL_law_873 : decode cL_law 873 = .ok (.if_icmp .eq 297, 3) := by decide +kernel
theorem dL_law_876 : decode cL_law 876 = .ok (.iconst 0, 1) := by decide +kernel
theorem dL_law_877 : decode cL_law 877 = .ok (.ireturn, 1) := by decide +kernel
theorem dL_law_878 : decode cL_law 878 = .ok (.aload_n 1, 1) := by decide +kernel
theorem dL_law_879 : decode cL_law 879 = .ok (.aload_n 0, 1) := by decide +kernel
theorem dL_law_880 : decode cL_law 880 = .ok (.iload_n 3, 1) := by decide +kernel
theorem dL_law_881 : decode cL_law 881 = .ok (.iconst 1, 1) := by decide +kernel
theorem dL_law_882 : decode cL_law 882 = .ok (.iadd, 1) := by decide +kernel
theorem dL_law_883 : decode cL_law 883 = .ok (.iaload, 1) := by decide +kernel
theorem dL_law_884 : decode cL_law 884 = .ok (.invokevirtual 111, 3) := by decide +kernel
theorem dL_law_887 : decode cL_law 887 = .ok (.aload_n 2, 1) := by decide +kernel
theorem dL_law_888 : decode cL_law 888 = .ok (.aload_n 0, 1) := by decide +kernel
theorem dL_law_889 : decode cL_law 889 = .ok (.iload_n 3, 1) := by decide +kernel
theorem dL_law_890 : decode cL_law 890 = .ok (.iconst 1, 1) := by decide +kernel
theorem dL_law_891 : decode cL_law 891 = .ok (.iadd, 1) := by decide +kernel
theorem dL_law_892 : decode cL_law 892 = .ok (.iaload, 1) := by decide +kernel
theorem dL_law_893 : decode cL_law 893 = .ok (.invokevirtual 114, 3) := by decide +kernel
theorem dL_law_896 : decode cL_law 896 = .ok (.if_icmp .eq 274, 3) := by decide +kernel
theorem dL_law_899 : decode cL_law 899 = .ok (.iconst 0, 1) := by decide +kernel
theorem dL_law_900 : decode cL_law 900 = .ok (.ireturn, 1) := by decide +kernel
theorem dL_law_901 : decode cL_law 901 = .ok (.aload_n 1, 1) := by decide +kernel
theorem dL_law_902 : decode cL_law 902 = .ok (.aload_n 0, 1) := by decide +kernel
theorem dL_law_903 : decode cL_law 903 = .ok (.iload_n 3, 1) := by decide +kernel
theorem dL_law_904 : decode cL_law 904 = .ok (.iconst 1, 1) := by decide +kernel
theorem dL_law_905 : decode cL_law 905 = .ok (.iadd, 1) := by decide +kernel
theorem dL_law_906 : decode cL_law 906 = .ok (.iaload, 1) := by decide +kernel
theorem dL_law_907 : decode cL_law 907 = .ok (.aload_n 0, 1) := by decide +kernel
theorem dL_law_908 : decode cL_law 908 = .ok (.iload_n 3, 1) := by decide +kernel
theorem dL_law_909 : decode cL_law 909 = .ok (.iconst 2, 1) := by decide +kernel
theorem dL_law_910 : decode cL_law 910 = .ok (.iadd, 1) := by decide +kernel
theorem dL_law_911 : decode cL_law 911 = .ok (.iaload, 1) := by decide +kernel
theorem dL_law_912 : decode cL_law 912 = .ok (.invokevirtual 115, 3) := by decide +kernel
theorem dL_law_915 : decode cL_law 915 = .ok (.aload_n 2, 1) := by decide +kernel
theorem dL_law_916 : decode cL_law 916 = .ok (.aload_n 0, 1) := by decide +kernel
theorem dL_law_917 : decode cL_law 917 = .ok (.iload_n 3, 1) := by decide +kernel
theorem dL_law_918 : decode cL_law 918 = .ok (.iconst 1, 1) := by decide +kernel
theorem dL_law_919 : decode cL_law 919 = .ok (.iadd, 1) := by decide +kernel
theorem dL_law_920 : decode cL_law 920 = .ok (.iaload, 1) := by decide +kernel
theorem dL_law_921 : decode cL_law 921 = .ok (.aload_n 0, 1) := by decide +kernel
theorem dL_law_922 : decode cL_law 922 = .ok (.iload_n 3, 1) := by decide +kernel
theorem dL_law_923 : decode cL_law 923 = .ok (.iconst 2, 1) := by decide +kernel
theorem dL_law_924 : decode cL_law 924 = .ok (.iadd, 1) := by decide +kernel
theorem dL_law_925 : decode cL_law 925 = .ok (.iaload, 1) := by decide +kernel
theorem dL_law_926 : decode cL_law 926 = .ok (.invokevirtual 118, 3) := by decide +kernel
theorem dL_law_929 : decode cL_law 929 = .ok (.if_icmp .eq 241, 3) := by decide +kernel
theorem dL_law_932 : decode cL_law 932 = .ok (.iconst 0, 1) := by decide +kernel
theorem dL_law_933 : decode cL_law 933 = .ok (.ireturn, 1) := by decide +kernel
theorem dL_law_934 : decode cL_law 934 = .ok (.aload_n 1, 1) := by decide +kernel
theorem dL_law_935 : decode cL_law 935 = .ok (.aload_n 0, 1) := by decide +kernel
theorem dL_law_936 : decode cL_law 936 = .ok (.iload_n 3, 1) := by decide +kernel
theorem dL_law_937 : decode cL_law 937 = .ok (.iconst 1, 1) := by decide +kernel
theorem dL_law_938 : decode cL_law 938 = .ok (.iadd, 1) := by decide +kernel
theorem dL_law_939 : decode cL_law 939 = .ok (.iaload, 1) := by decide +kernel
theorem dL_law_940 : decode cL_law 940 = .ok (.invokevirtual 119, 3) := by decide +kernel
theorem dL_law_943 : decode cL_law 943 = .ok (.aload_n 2, 1) := by decide +kernel
theorem dL_law_944 : decode cL_law 944 = .ok (.aload_n 0, 1) := by decide +kernel
theorem dL_law_945 : decode cL_law 945 = .ok (.iload_n 3, 1) := by decide +kernel
theorem dL_law_946 : decode cL_law 946 = .ok (.iconst 1, 1) := by decide +kernel
theorem dL_law_947 : decode cL_law 947 = .ok (.iadd, 1) := by decide +kernel
theorem dL_law_948 : decode cL_law 948 = .ok (.iaload, 1) := by decide +kernel
theorem dL_law_949 : decode cL_law 949 = .ok (.invokevirtual 122, 3) := by decide +kernel
theorem dL_law_952 : decode cL_law 952 = .ok (.if_icmp .eq 218, 3) := by decide +kernel
theorem dL_law_955 : decode cL_law 955 = .ok (.iconst 0, 1) := by decide +kernel
theorem dL_law_956 : decode cL_law 956 = .ok (.ireturn, 1) := by decide +kernel
theorem dL_law_957 : decode cL_law 957 = .ok (.aload_n 1, 1) := by decide +kernel
theorem dL_law_958 : decode cL_law 958 = .ok (.aload_n 0, 1) := by decide +kernel
theorem dL_law_959 : decode cL_law 959 = .ok (.iload_n 3, 1) := by decide +kernel
theorem dL_law_960 : decode cL_law 960 = .ok (.iconst 1, 1) := by decide +kernel
theorem dL_law_961 : decode cL_law 961 = .ok (.iadd, 1) := by decide +kernel
theorem dL_law_962 : decode cL_law 962 = .ok (.iaload, 1) := by decide +kernel
theorem dL_law_963 : decode cL_law 963 = .ok (.aload_n 0, 1) := by decide +kernel
theorem dL_law_964 : decode cL_law 964 = .ok (.iload_n 3, 1) := by decide +kernel
theorem dL_law_965 : decode cL_law 965 = .ok (.iconst 2, 1) := by decide +kernel
theorem dL_law_966 : decode cL_law 966 = .ok (.iadd, 1) := by decide +kernel
theorem dL_law_967 : decode cL_law 967 = .ok (.iaload, 1) := by decide +kernel
theorem dL_law_968 : decode cL_law 968 = .ok (.aload_n 0, 1) := by decide +kernel
theorem dL_law_969 : decode cL_law 969 = .ok (.iload_n 3, 1) := by decide +kernel
theorem dL_law_970 : decode cL_law 970 = .ok (.iconst 3, 1) := by decide +kernel
theorem dL_law_971 : decode cL_law 971 = .ok (.iadd, 1) := by decide +kernel
theorem dL_law_972 : decode cL_law 972 = .ok (.iaload, 1) := by decide +kernel
theorem dL_law_973 : decode cL_law 973 = .ok (.invokevirtual 123, 3) := by decide +kernel
theorem dL_law_976 : decode cL_law 976 = .ok (.aload_n 2, 1) := by decide +kernel
theorem dL_law_977 : decode cL_law 977 = .ok (.aload_n 0, 1) := by decide +kernel
theorem dL_law_978 : decode cL_law 978 = .ok (.iload_n 3, 1) := by decide +kernel
theorem dL_law_979 : decode cL_law 979 = .ok (.iconst 1, 1) := by decide +kernel
theorem dL_law_980 : decode cL_law 980 = .ok (.iadd, 1) := by decide +kernel
theorem dL_law_981 : decode cL_law 981 = .ok (.iaload, 1) := by decide +kernel
theorem dL_law_982 : decode cL_law 982 = .ok (.aload_n 0, 1) := by decide +kernel
theorem dL_law_983 : decode cL_law 983 = .ok (.iload_n 3, 1) := by decide +kernel
theorem dL_law_984 : decode cL_law 984 = .ok (.iconst 2, 1) := by decide +kernel
theorem dL_law_985 : decode cL_law 985 = .ok (.iadd, 1) := by decide +kernel
theorem dL_law_986 : decode cL_law 986 = .ok (.iaload, 1) := by decide +kernel
theorem dL_law_987 : decode cL_law 987 = .ok (.aload_n 0, 1) := by decide +kernel
theorem dL_law_988 : decode cL_law 988 = .ok (.iload_n 3, 1) := by decide +kernel
theorem dL_law_989 : decode cL_law 989 = .ok (.iconst 3, 1) := by decide +kernel
theorem dL_law_990 : decode cL_law 990 = .ok (.iadd, 1) := by decide +kernel
theorem dL_law_991 : decode cL_law 991 = .ok (.iaload, 1) := by decide +kernel
theorem dL_law_992 : decode cL_law 992 = .ok (.invokevirtual 126, 3) := by decide +kernel
theorem dL_law_995 : decode cL_law 995 = .ok (.if_icmp .eq 175, 3) := by decide +kernel
theorem dL_law_998 : decode cL_law 998 = .ok (.iconst 0, 1) := by decide +kernel
theorem dL_law_999 : decode cL_law 999 = .ok (.ireturn, 1) := by decide +kernel
theorem dL_law_1000 : decode cL_law 1000 = .ok (.aload_n 1, 1) := by decide +kernel
theorem dL_law_1001 : decode cL_law 1001 = .ok (.aload_n 0, 1) := by decide +kernel
theorem dL_law_1002 : decode cL_law 1002 = .ok (.iload_n 3, 1) := by decide +kernel
theorem dL_law_1003 : decode cL_law 1003 = .ok (.iconst 1, 1) := by decide +kernel
theorem dL_law_1004 : decode cL_law 1004 = .ok (.iadd, 1) := by decide +kernel
theorem dL_law_1005 : decode cL_law 1005 = .ok (.iaload, 1) := by decide +kernel
theorem dL_law_1006 : decode cL_law 1006 = .ok (.aload_n 0, 1) := by decide +kernel
theorem dL_law_1007 : decode cL_law 1007 = .ok (.iload_n 3, 1) := by decide +kernel
theorem dL_law_1008 : decode cL_law 1008 = .ok (.iconst 2, 1) := by decide +kernel
theorem dL_law_1009 : decode cL_law 1009 = .ok (.iadd, 1) := by decide +kernel
theorem dL_law_1010 : decode cL_law 1010 = .ok (.iaload, 1) := by decide +kernel
theorem dL_law_1011 : decode cL_law 1011 = .ok (.aload_n 0, 1) := by decide +kernel
theorem dL_law_1012 : decode cL_law 1012 = .ok (.iload_n 3, 1) := by decide +kernel
theorem dL_law_1013 : decode cL_law 1013 = .ok (.iconst 3, 1) := by decide +kernel
theorem dL_law_1014 : decode cL_law 1014 = .ok (.iadd, 1) := by decide +kernel
theorem dL_law_1015 : decode cL_law 1015 = .ok (.iaload, 1) := by decide +kernel
theorem dL_law_1016 : decode cL_law 1016 = .ok (.i2l, 1) := by decide +kernel
theorem dL_law_1017 : decode cL_law 1017 = .ok (.bipush 32, 2) := by decide +kernel
theorem dL_law_1019 : decode cL_law 1019 = .ok (.lshl, 1) := by decide +kernel
theorem dL_law_1020 : decode cL_law 1020 = .ok (.aload_n 0, 1) := by decide +kernel
theorem dL_law_1021 : decode cL_law 1021 = .ok (.iload_n 3, 1) := by decide +kernel
theorem dL_law_1022 : decode cL_law 1022 = .ok (.iconst 4, 1) := by decide +kernel
theorem dL_law_1023 : decode cL_law 1023 = .ok (.iadd, 1) := by decide +kernel
theorem dL_law_1024 : decode cL_law 1024 = .ok (.iaload, 1) := by decide +kernel
theorem dL_law_1025 : decode cL_law 1025 = .ok (.i2l, 1) := by decide +kernel
theorem dL_law_1026 : decode cL_law 1026 = .ok (.ldc2_w 127, 3) := by decide +kernel
theorem dL_law_1029 : decode cL_law 1029 = .ok (.land, 1) := by decide +kernel
theorem dL_law_1030 : decode cL_law 1030 = .ok (.lor, 1) := by decide +kernel
theorem dL_law_1031 : decode cL_law 1031 = .ok (.invokevirtual 129, 3) := by decide +kernel
theorem dL_law_1034 : decode cL_law 1034 = .ok (.aload_n 2, 1) := by decide +kernel
theorem dL_law_1035 : decode cL_law 1035 = .ok (.aload_n 0, 1) := by decide +kernel
theorem dL_law_1036 : decode cL_law 1036 = .ok (.iload_n 3, 1) := by decide +kernel
theorem dL_law_1037 : decode cL_law 1037 = .ok (.iconst 1, 1) := by decide +kernel
theorem dL_law_1038 : decode cL_law 1038 = .ok (.iadd, 1) := by decide +kernel
theorem dL_law_1039 : decode cL_law 1039 = .ok (.iaload, 1) := by decide +kernel
theorem dL_law_1040 : decode cL_law 1040 = .ok (.aload_n 0, 1) := by decide +kernel
theorem dL_law_1041 : decode cL_law 1041 = .ok (.iload_n 3, 1) := by decide +kernel
theorem dL_law_1042 : decode cL_law 1042 = .ok (.iconst 2, 1) := by decide +kernel
theorem dL_law_1043 : decode cL_law 1043 = .ok (.iadd, 1) := by decide +kernel
theorem dL_law_1044 : decode cL_law 1044 = .ok (.iaload, 1) := by decide +kernel
theorem dL_law_1045 : decode cL_law 1045 = .ok (.aload_n 0, 1) := by decide +kernel
theorem dL_law_1046 : decode cL_law 1046 = .ok (.iload_n 3, 1) := by decide +kernel
theorem dL_law_1047 : decode cL_law 1047 = .ok (.iconst 3, 1) := by decide +kernel
theorem dL_law_1048 : decode cL_law 1048 = .ok (.iadd, 1) := by decide +kernel
theorem dL_law_1049 : decode cL_law 1049 = .ok (.iaload, 1) := by decide +kernel
theorem dL_law_1050 : decode cL_law 1050 = .ok (.i2l, 1) := by decide +kernel
theorem dL_law_1051 : decode cL_law 1051 = .ok (.bipush 32, 2) := by decide +kernel
theorem dL_law_1053 : decode cL_law 1053 = .ok (.lshl, 1) := by decide +kernel
theorem dL_law_1054 : decode cL_law 1054 = .ok (.aload_n 0, 1) := by decide +kernel
theorem dL_law_1055 : decode cL_law 1055 = .ok (.iload_n 3, 1) := by decide +kernel
theorem dL_law_1056 : decode cL_law 1056 = .ok (.iconst 4, 1) := by decide +kernel
theorem dL_law_1057 : decode cL_law 1057 = .ok (.iadd, 1) := by decide +kernel
theorem dL_law_1058 : decode cL_law 1058 = .ok (.iaload, 1) := by decide +kernel
theorem dL_law_1059 : decode cL_law 1059 = .ok (.i2l, 1) := by decide +kernel
theorem dL_law_1060 : decode cL_law 1060 = .ok (.ldc2_w 127, 3) := by decide +kernel
theorem dL_law_1063 : decode cL_law 1063 = .ok (.land, 1) := by decide +kernel
theorem dL_law_1064 : decode cL_law 1064 = .ok (.lor, 1) := by decide +kernel
theorem dL_law_1065 : decode cL_law 1065 = .ok (.invokevirtual 133, 3) := by decide +kernel
theorem dL_law_1068 : decode cL_law 1068 = .ok (.if_icmp .eq 102, 3) := by decide +kernel
theorem dL_law_1071 : decode cL_law 1071 = .ok (.iconst 0, 1) := by decide +kernel
theorem dL_law_1072 : decode cL_law 1072 = .ok (.ireturn, 1) := by decide +kernel
theorem dL_law_1073 : decode cL_law 1073 = .ok (.aload_n 1, 1) := by decide +kernel
theorem dL_law_1074 : decode cL_law 1074 = .ok (.aload_n 0, 1) := by decide +kernel
theorem dL_law_1075 : decode cL_law 1075 = .ok (.iload_n 3, 1) := by decide +kernel
theorem dL_law_1076 : decode cL_law 1076 = .ok (.iconst 1, 1) := by decide +kernel
theorem dL_law_1077 : decode cL_law 1077 = .ok (.iadd, 1) := by decide +kernel
theorem dL_law_1078 : decode cL_law 1078 = .ok (.iaload, 1) := by decide +kernel
theorem dL_law_1079 : decode cL_law 1079 = .ok (.aload_n 0, 1) := by decide +kernel
theorem dL_law_1080 : decode cL_law 1080 = .ok (.iload_n 3, 1) := by decide +kernel
theorem dL_law_1081 : decode cL_law 1081 = .ok (.iconst 2, 1) := by decide +kernel
theorem dL_law_1082 : decode cL_law 1082 = .ok (.iadd, 1) := by decide +kernel
theorem dL_law_1083 : decode cL_law 1083 = .ok (.iaload, 1) := by decide +kernel
theorem dL_law_1084 : decode cL_law 1084 = .ok (.invokevirtual 134, 3) := by decide +kernel
theorem dL_law_1087 : decode cL_law 1087 = .ok (.aload_n 2, 1) := by decide +kernel
theorem dL_law_1088 : decode cL_law 1088 = .ok (.aload_n 0, 1) := by decide +kernel
theorem dL_law_1089 : decode cL_law 1089 = .ok (.iload_n 3, 1) := by decide +kernel
theorem dL_law_1090 : decode cL_law 1090 = .ok (.iconst 1, 1) := by decide +kernel
theorem dL_law_1091 : decode cL_law 1091 = .ok (.iadd, 1) := by decide +kernel
theorem dL_law_1092 : decode cL_law 1092 = .ok (.iaload, 1) := by decide +kernel
theorem dL_law_1093 : decode cL_law 1093 = .ok (.aload_n 0, 1) := by decide +kernel
theorem dL_law_1094 : decode cL_law 1094 = .ok (.iload_n 3, 1) := by decide +kernel
theorem dL_law_1095 : decode cL_law 1095 = .ok (.iconst 2, 1) := by decide +kernel
theorem dL_law_1096 : decode cL_law 1096 = .ok (.iadd, 1) := by decide +kernel
theorem dL_law_1097 : decode cL_law 1097 = .ok (.iaload, 1) := by decide +kernel
theorem dL_law_1098 : decode cL_law 1098 = .ok (.invokevirtual 137, 3) := by decide +kernel
theorem dL_law_1101 : decode cL_law 1101 = .ok (.lcmp, 1) := by decide +kernel
theorem dL_law_1102 : decode cL_law 1102 = .ok (.ifCond .eq 68, 3) := by decide +kernel
theorem dL_law_1105 : decode cL_law 1105 = .ok (.iconst 0, 1) := by decide +kernel
theorem dL_law_1106 : decode cL_law 1106 = .ok (.ireturn, 1) := by decide +kernel
theorem dL_law_1107 : decode cL_law 1107 = .ok (.aload_n 1, 1) := by decide +kernel
theorem dL_law_1108 : decode cL_law 1108 = .ok (.aload_n 0, 1) := by decide +kernel
theorem dL_law_1109 : decode cL_law 1109 = .ok (.iload_n 3, 1) := by decide +kernel
theorem dL_law_1110 : decode cL_law 1110 = .ok (.iconst 1, 1) := by decide +kernel
theorem dL_law_1111 : decode cL_law 1111 = .ok (.iadd, 1) := by decide +kernel
theorem dL_law_1112 : decode cL_law 1112 = .ok (.iaload, 1) := by decide +kernel
theorem dL_law_1113 : decode cL_law 1113 = .ok (.aload_n 0, 1) := by decide +kernel
theorem dL_law_1114 : decode cL_law 1114 = .ok (.iload_n 3, 1) := by decide +kernel
theorem dL_law_1115 : decode cL_law 1115 = .ok (.iconst 2, 1) := by decide +kernel
theorem dL_law_1116 : decode cL_law 1116 = .ok (.iadd, 1) := by decide +kernel
theorem dL_law_1117 : decode cL_law 1117 = .ok (.iaload, 1) := by decide +kernel
theorem dL_law_1118 : decode cL_law 1118 = .ok (.aload_n 0, 1) := by decide +kernel
theorem dL_law_1119 : decode cL_law 1119 = .ok (.iload_n 3, 1) := by decide +kernel
theorem dL_law_1120 : decode cL_law 1120 = .ok (.iconst 3, 1) := by decide +kernel
theorem dL_law_1121 : decode cL_law 1121 = .ok (.iadd, 1) := by decide +kernel
theorem dL_law_1122 : decode cL_law 1122 = .ok (.iaload, 1) := by decide +kernel
theorem dL_law_1123 : decode cL_law 1123 = .ok (.aload_n 0, 1) := by decide +kernel
theorem dL_law_1124 : decode cL_law 1124 = .ok (.iload_n 3, 1) := by decide +kernel
theorem dL_law_1125 : decode cL_law 1125 = .ok (.iconst 4, 1) := by decide +kernel
theorem dL_law_1126 : decode cL_law 1126 = .ok (.iadd, 1) := by decide +kernel
theorem dL_law_1127 : decode cL_law 1127 = .ok (.iaload, 1) := by decide +kernel
theorem dL_law_1128 : decode cL_law 1128 = .ok (.aload_n 0, 1) := by decide +kernel
theorem dL_law_1129 : decode cL_law 1129 = .ok (.iload_n 3, 1) := by decide +kernel
theorem dL_law_1130 : decode cL_law 1130 = .ok (.iconst 5, 1) := by decide +kernel
theorem dL_law_1131 : decode cL_law 1131 = .ok (.iadd, 1) := by decide +kernel
theorem dL_law_1132 : decode cL_law 1132 = .ok (.iaload, 1) := by decide +kernel
theorem dL_law_1133 : decode cL_law 1133 = .ok (.invokevirtual 138, 3) := by decide +kernel
theorem dL_law_1136 : decode cL_law 1136 = .ok (.aload_n 2, 1) := by decide +kernel
theorem dL_law_1137 : decode cL_law 1137 = .ok (.aload_n 0, 1) := by decide +kernel
theorem dL_law_1138 : decode cL_law 1138 = .ok (.iload_n 3, 1) := by decide +kernel
theorem dL_law_1139 : decode cL_law 1139 = .ok (.iconst 1, 1) := by decide +kernel
theorem dL_law_1140 : decode cL_law 1140 = .ok (.iadd, 1) := by decide +kernel
theorem dL_law_1141 : decode cL_law 1141 = .ok (.iaload, 1) := by decide +kernel
theorem dL_law_1142 : decode cL_law 1142 = .ok (.aload_n 0, 1) := by decide +kernel
theorem dL_law_1143 : decode cL_law 1143 = .ok (.iload_n 3, 1) := by decide +kernel
theorem dL_law_1144 : decode cL_law 1144 = .ok (.iconst 2, 1) := by decide +kernel
theorem dL_law_1145 : decode cL_law 1145 = .ok (.iadd, 1) := by decide +kernel
theorem dL_law_1146 : decode cL_law 1146 = .ok (.iaload, 1) := by decide +kernel
theorem dL_law_1147 : decode cL_law 1147 = .ok (.aload_n 0, 1) := by decide +kernel
theorem dL_law_1148 : decode cL_law 1148 = .ok (.iload_n 3, 1) := by decide +kernel
theorem dL_law_1149 : decode cL_law 1149 = .ok (.iconst 3, 1) := by decide +kernel
theorem dL_law_1150 : decode cL_law 1150 = .ok (.iadd, 1) := by decide +kernel
theorem dL_law_1151 : decode cL_law 1151 = .ok (.iaload, 1) := by decide +kernel
theorem dL_law_1152 : decode cL_law 1152 = .ok (.aload_n 0, 1) := by decide +kernel
theorem dL_law_1153 : decode cL_law 1153 = .ok (.iload_n 3, 1) := by decide +kernel
theorem dL_law_1154 : decode cL_law 1154 = .ok (.iconst 4, 1) := by decide +kernel
theorem dL_law_1155 : decode cL_law 1155 = .ok (.iadd, 1) := by decide +kernel
theorem dL_law_1156 : decode cL_law 1156 = .ok (.iaload, 1) := by decide +kernel
theorem dL_law_1157 : decode cL_law 1157 = .ok (.aload_n 0, 1) := by decide +kernel
theorem dL_law_1158 : decode cL_law 1158 = .ok (.iload_n 3, 1) := by decide +kernel
theorem dL_law_1159 : decode cL_law 1159 = .ok (.iconst 5, 1) := by decide +kernel
theorem dL_law_1160 : decode cL_law 1160 = .ok (.iadd, 1) := by decide +kernel
theorem dL_law_1161 : decode cL_law 1161 = .ok (.iaload, 1) := by decide +kernel
theorem dL_law_1162 : decode cL_law 1162 = .ok (.invokevirtual 142, 3) := by decide +kernel
theorem dL_law_1165 : decode cL_law 1165 = .ok (.if_icmp .eq 5, 3) := by decide +kernel
theorem dL_law_1168 : decode cL_law 1168 = .ok (.iconst 0, 1) := by decide +kernel
theorem dL_law_1169 : decode cL_law 1169 = .ok (.ireturn, 1) := by decide +kernel
theorem dL_law_1170 : decode cL_law 1170 = .ok (.iinc 3 6, 3) := by decide +kernel
theorem dL_law_1173 : decode cL_law 1173 = .ok (.goto (-1155), 3) := by decide +kernel
theorem dL_law_1176 : decode cL_law 1176 = .ok (.iconst 1, 1) := by decide +kernel
theorem dL_law_1177 : decode cL_law 1177 = .ok (.ireturn, 1) := by decide +kernel
