theorem dX1_init_0 : decode cX1_init 0 = .ok (.aload_n 0, 1) := by decide +kernel
theorem dX1_init_1 : decode cX1_init 1 = .ok (.invokespecial 3, 3) := by decide +kernel
theorem dX1_init_4 : decode cX1_init 4 = .ok (.aload_n 0, 1) := by decide +kernel
theorem dX1_init_5 : decode cX1_init 5 = .ok (.bipush 49, 2) := by decide +kernel
theorem dX1_init_7 : decode cX1_init 7 = .ok (.newarray .int, 2) := by decide +kernel
theorem dX1_init_9 : decode cX1_init 9 = .ok (.putfield 9, 3) := by decide +kernel
theorem dX1_init_12 : decode cX1_init 12 = .ok (.aload_n 0, 1) := by decide +kernel
theorem dX1_init_13 : decode cX1_init 13 = .ok (.bipush 16, 2) := by decide +kernel
theorem dX1_init_15 : decode cX1_init 15 = .ok (.newarray .int, 2) := by decide +kernel
theorem dX1_init_17 : decode cX1_init 17 = .ok (.putfield 15, 3) := by decide +kernel
theorem dX1_init_20 : decode cX1_init 20 = .ok (.aload_n 0, 1) := by decide +kernel
theorem dX1_init_21 : decode cX1_init 21 = .ok (.bipush 16, 2) := by decide +kernel
theorem dX1_init_23 : decode cX1_init 23 = .ok (.newarray .int, 2) := by decide +kernel
theorem dX1_init_25 : decode cX1_init 25 = .ok (.putfield 18, 3) := by decide +kernel
theorem dX1_init_28 : decode cX1_init 28 = .ok (.aload_n 0, 1) := by decide +kernel
theorem dX1_init_29 : decode cX1_init 29 = .ok (.bipush 48, 2) := by decide +kernel
theorem dX1_init_31 : decode cX1_init 31 = .ok (.newarray .int, 2) := by decide +kernel
theorem dX1_init_33 : decode cX1_init 33 = .ok (.putfield 21, 3) := by decide +kernel
theorem dX1_init_36 : decode cX1_init 36 = .ok (.aload_n 0, 1) := by decide +kernel
theorem dX1_init_37 : decode cX1_init 37 = .ok (.sipush 960, 3) := by decide +kernel
theorem dX1_init_40 : decode cX1_init 40 = .ok (.newarray .int, 2) := by decide +kernel
theorem dX1_init_42 : decode cX1_init 42 = .ok (.putfield 24, 3) := by decide +kernel
theorem dX1_init_45 : decode cX1_init 45 = .ok (.aload_n 0, 1) := by decide +kernel
theorem dX1_init_46 : decode cX1_init 46 = .ok (.sipush 294, 3) := by decide +kernel
theorem dX1_init_49 : decode cX1_init 49 = .ok (.newarray .int, 2) := by decide +kernel
theorem dX1_init_51 : decode cX1_init 51 = .ok (.putfield 27, 3) := by decide +kernel
theorem dX1_init_54 : decode cX1_init 54 = .ok (.aload_n 0, 1) := by decide +kernel
theorem dX1_init_55 : decode cX1_init 55 = .ok (.sipush 294, 3) := by decide +kernel
theorem dX1_init_58 : decode cX1_init 58 = .ok (.newarray .int, 2) := by decide +kernel
theorem dX1_init_60 : decode cX1_init 60 = .ok (.putfield 30, 3) := by decide +kernel
theorem dX1_init_63 : decode cX1_init 63 = .ok (.aload_n 0, 1) := by decide +kernel
theorem dX1_init_64 : decode cX1_init 64 = .ok (.bipush 49, 2) := by decide +kernel
theorem dX1_init_66 : decode cX1_init 66 = .ok (.newarray .int, 2) := by decide +kernel
theorem dX1_init_68 : decode cX1_init 68 = .ok (.putfield 33, 3) := by decide +kernel
theorem dX1_init_71 : decode cX1_init 71 = .ok (.aload_n 0, 1) := by decide +kernel
theorem dX1_init_72 : decode cX1_init 72 = .ok (.bipush 16, 2) := by decide +kernel
theorem dX1_init_74 : decode cX1_init 74 = .ok (.newarray .int, 2) := by decide +kernel
theorem dX1_init_76 : decode cX1_init 76 = .ok (.putfield 36, 3) := by decide +kernel
theorem dX1_init_79 : decode cX1_init 79 = .ok (.aload_n 0, 1) := by decide +kernel
theorem dX1_init_80 : decode cX1_init 80 = .ok (.bipush 16, 2) := by decide +kernel
theorem dX1_init_82 : decode cX1_init 82 = .ok (.newarray .int, 2) := by decide +kernel
theorem dX1_init_84 : decode cX1_init 84 = .ok (.putfield 39, 3) := by decide +kernel
theorem dX1_init_87 : decode cX1_init 87 = .ok (.aload_n 0, 1) := by decide +kernel
theorem dX1_init_88 : decode cX1_init 88 = .ok (.bipush 49, 2) := by decide +kernel
theorem dX1_init_90 : decode cX1_init 90 = .ok (.newarray .int, 2) := by decide +kernel
theorem dX1_init_92 : decode cX1_init 92 = .ok (.putfield 42, 3) := by decide +kernel
theorem dX1_init_95 : decode cX1_init 95 = .ok (.aload_n 0, 1) := by decide +kernel
theorem dX1_init_96 : decode cX1_init 96 = .ok (.bipush 49, 2) := by decide +kernel
theorem dX1_init_98 : decode cX1_init 98 = .ok (.newarray .int, 2) := by decide +kernel
theorem dX1_init_100 : decode cX1_init 100 = .ok (.putfield 45, 3) := by decide +kernel
theorem dX1_init_103 : decode cX1_init 103 = .ok (.return_, 1) := by decide +kernel
theorem dX1_begin_0 : decode cX1_begin 0 = .ok (.aload_n 0, 1) := by decide +kernel
theorem dX1_begin_1 : decode cX1_begin 1 = .ok (.aload_n 1, 1) := by decide +kernel
theorem dX1_begin_2 : decode cX1_begin 2 = .ok (.getfield 48, 3) := by decide +kernel
theorem dX1_begin_5 : decode cX1_begin 5 = .ok (.putfield 54, 3) := by decide +kernel
theorem dX1_begin_8 : decode cX1_begin 8 = .ok (.aload_n 0, 1) := by decide +kernel
theorem dX1_begin_9 : decode cX1_begin 9 = .ok (.aload_n 1, 1) := by decide +kernel
theorem dX1_begin_10 : decode cX1_begin 10 = .ok (.getfield 55, 3) := by decide +kernel
theorem dX1_begin_13 : decode cX1_begin 13 = .ok (.putfield 58, 3) := by decide +kernel
theorem dX1_begin_16 : decode cX1_begin 16 = .ok (.aload_n 0, 1) := by decide +kernel
theorem dX1_begin_17 : decode cX1_begin 17 = .ok (.aload_n 0, 1) := by decide +kernel
theorem dX1_begin_18 : decode cX1_begin 18 = .ok (.getfield 54, 3) := by decide +kernel
theorem dX1_begin_21 : decode cX1_begin 21 = .ok (.aload_n 0, 1) := by decide +kernel
theorem dX1_begin_22 : decode cX1_begin 22 = .ok (.getfield 58, 3) := by decide +kernel
theorem dX1_begin_25 : decode cX1_begin 25 = .ok (.imul, 1) := by decide +kernel
theorem dX1_begin_26 : decode cX1_begin 26 = .ok (.bipush 49, 2) := by decide +kernel
theorem dX1_begin_28 : decode cX1_begin 28 = .ok (.invokestatic 59, 3) := by decide +kernel
theorem dX1_begin_31 : decode cX1_begin 31 = .ok (.putfield 65, 3) := by decide +kernel
theorem dX1_begin_34 : decode cX1_begin 34 = .ok (.aload_n 0, 1) := by decide +kernel
theorem dX1_begin_35 : decode cX1_begin 35 = .ok (.aload_n 1, 1) := by decide +kernel
theorem dX1_begin_36 : decode cX1_begin 36 = .ok (.invokevirtual 68, 3) := by decide +kernel
theorem dX1_begin_39 : decode cX1_begin 39 = .ok (.bipush 16, 2) := by decide +kernel
theorem dX1_begin_41 : decode cX1_begin 41 = .ok (.invokestatic 59, 3) := by decide +kernel
theorem dX1_begin_44 : decode cX1_begin 44 = .ok (.putfield 72, 3) := by decide +kernel
theorem dX1_begin_47 : decode cX1_begin 47 = .ok (.aload_n 0, 1) := by decide +kernel
theorem dX1_begin_48 : decode cX1_begin 48 = .ok (.iconst 0, 1) := by decide +kernel
theorem dX1_begin_49 : decode cX1_begin 49 = .ok (.putfield 74, 3) := by decide +kernel
theorem dX1_begin_52 : decode cX1_begin 52 = .ok (.aload_n 0, 1) := by decide +kernel
theorem dX1_begin_53 : decode cX1_begin 53 = .ok (.getfield 9, 3) := by decide +kernel
theorem dX1_begin_56 : decode cX1_begin 56 = .ok (.iconst (-1), 1) := by decide +kernel
theorem dX1_begin_57 : decode cX1_begin 57 = .ok (.invokestatic 77, 3) := by decide +kernel
theorem dX1_begin_60 : decode cX1_begin 60 = .ok (.aload_n 0, 1) := by decide +kernel
theorem dX1_begin_61 : decode cX1_begin 61 = .ok (.getfield 15, 3) := by decide +kernel
theorem dX1_begin_64 : decode cX1_begin 64 = .ok (.iconst (-1), 1) := by decide +kernel
theorem dX1_begin_65 : decode cX1_begin 65 = .ok (.invokestatic 77, 3) := by decide +kernel
theorem dX1_begin_68 : decode cX1_begin 68 = .ok (.aload_n 0, 1) := by decide +kernel
theorem dX1_begin_69 : decode cX1_begin 69 = .ok (.getfield 18, 3) := by decide +kernel
theorem dX1_begin_72 : decode cX1_begin 72 = .ok (.iconst 0, 1) := by decide +kernel
theorem dX1_begin_73 : decode cX1_begin 73 = .ok (.invokestatic 77, 3) := by decide +kernel
theorem dX1_begin_76 : decode cX1_begin 76 = .ok (.aload_n 0, 1) := by decide +kernel
theorem dX1_begin_77 : decode cX1_begin 77 = .ok (.getfield 30, 3) := by decide +kernel
theorem dX1_begin_80 : decode cX1_begin 80 = .ok (.iconst (-1), 1) := by decide +kernel
theorem dX1_begin_81 : decode cX1_begin 81 = .ok (.invokestatic 77, 3) := by decide +kernel
theorem dX1_begin_84 : decode cX1_begin 84 = .ok (.aload_n 0, 1) := by decide +kernel
theorem dX1_begin_85 : decode cX1_begin 85 = .ok (.getfield 33, 3) := by decide +kernel
theorem dX1_begin_88 : decode cX1_begin 88 = .ok (.iconst 0, 1) := by decide +kernel
theorem dX1_begin_89 : decode cX1_begin 89 = .ok (.invokestatic 77, 3) := by decide +kernel
theorem dX1_begin_92 : decode cX1_begin 92 = .ok (.iconst 0, 1) := by decide +kernel
theorem dX1_begin_93 : decode cX1_begin 93 = .ok (.istore_n 2, 1) := by decide +kernel
theorem dX1_begin_94 : decode cX1_begin 94 = .ok (.iload_n 2, 1) := by decide +kernel
theorem dX1_begin_95 : decode cX1_begin 95 = .ok (.aload_n 0, 1) := by decide +kernel
theorem dX1_begin_96 : decode cX1_begin 96 = .ok (.getfield 65, 3) := by decide +kernel
theorem dX1_begin_99 : decode cX1_begin 99 = .ok (.if_icmp .ge 14, 3) := by decide +kernel
theorem dX1_begin_102 : decode cX1_begin 102 = .ok (.aload_n 0, 1) := by decide +kernel
theorem dX1_begin_103 : decode cX1_begin 103 = .ok (.iload_n 2, 1) := by decide +kernel
theorem dX1_begin_104 : decode cX1_begin 104 = .ok (.invokevirtual 83, 3) := by decide +kernel
theorem dX1_begin_107 : decode cX1_begin 107 = .ok (.iinc 2 1, 3) := by decide +kernel
theorem dX1_begin_110 : decode cX1_begin 110 = .ok (.goto (-16), 3) := by decide +kernel
theorem dX1_begin_113 : decode cX1_begin 113 = .ok (.aload_n 0, 1) := by decide +kernel
theorem dX1_begin_114 : decode cX1_begin 114 = .ok (.getfield 24, 3) := by decide +kernel
theorem dX1_begin_117 : decode cX1_begin 117 = .ok (.iconst 0, 1) := by decide +kernel
theorem dX1_begin_118 : decode cX1_begin 118 = .ok (.invokestatic 77, 3) := by decide +kernel
theorem dX1_begin_121 : decode cX1_begin 121 = .ok (.iconst 0, 1) := by decide +kernel
theorem dX1_begin_122 : decode cX1_begin 122 = .ok (.istore_n 2, 1) := by decide +kernel
theorem dX1_begin_123 : decode cX1_begin 123 = .ok (.iload_n 2, 1) := by decide +kernel
theorem dX1_begin_124 : decode cX1_begin 124 = .ok (.aload_n 0, 1) := by decide +kernel
theorem dX1_begin_125 : decode cX1_begin 125 = .ok (.getfield 72, 3) := by decide +kernel
theorem dX1_begin_128 : decode cX1_begin 128 = .ok (.if_icmp .ge 15, 3) := by decide +kernel
theorem dX1_begin_131 : decode cX1_begin 131 = .ok (.aload_n 0, 1) := by decide +kernel
theorem dX1_begin_132 : decode cX1_begin 132 = .ok (.iload_n 2, 1) := by decide +kernel
theorem dX1_begin_133 : decode cX1_begin 133 = .ok (.aload_n 1, 1) := by decide +kernel
theorem dX1_begin_134 : decode cX1_begin 134 = .ok (.invokevirtual 87, 3) := by decide +kernel
theorem dX1_begin_137 : decode cX1_begin 137 = .ok (.iinc 2 1, 3) := by decide +kernel
theorem dX1_begin_140 : decode cX1_begin 140 = .ok (.goto (-17), 3) := by decide +kernel
theorem dX1_begin_143 : decode cX1_begin 143 = .ok (.return_, 1) := by decide +kernel
theorem dX1_findCellsBeside_0 : decode cX1_findCellsBeside 0 = .ok (.aload_n 0, 1) := by decide +kernel
theorem dX1_findCellsBeside_1 : decode cX1_findCellsBeside 1 = .ok (.getfield 54, 3) := by decide +kernel
theorem dX1_findCellsBeside_4 : decode cX1_findCellsBeside 4 = .ok (.ifCond .le 12, 3) := by decide +kernel
theorem dX1_findCellsBeside_7 : decode cX1_findCellsBeside 7 = .ok (.iload_n 1, 1) := by decide +kernel
theorem dX1_findCellsBeside_8 : decode cX1_findCellsBeside 8 = .ok (.aload_n 0, 1) := by decide +kernel
theorem dX1_findCellsBeside_9 : decode cX1_findCellsBeside 9 = .ok (.getfield 54, 3) := by decide +kernel
theorem dX1_findCellsBeside_12 : decode cX1_findCellsBeside 12 = .ok (.irem, 1) := by decide +kernel
theorem dX1_findCellsBeside_13 : decode cX1_findCellsBeside 13 = .ok (.goto 4, 3) := by decide +kernel
theorem dX1_findCellsBeside_16 : decode cX1_findCellsBeside 16 = .ok (.iconst 0, 1) := by decide +kernel
theorem dX1_findCellsBeside_17 : decode cX1_findCellsBeside 17 = .ok (.istore_n 2, 1) := by decide +kernel
theorem dX1_findCellsBeside_18 : decode cX1_findCellsBeside 18 = .ok (.aload_n 0, 1) := by decide +kernel
theorem dX1_findCellsBeside_19 : decode cX1_findCellsBeside 19 = .ok (.getfield 54, 3) := by decide +kernel
theorem dX1_findCellsBeside_22 : decode cX1_findCellsBeside 22 = .ok (.ifCond .le 12, 3) := by decide +kernel
theorem dX1_findCellsBeside_25 : decode cX1_findCellsBeside 25 = .ok (.iload_n 1, 1) := by decide +kernel
theorem dX1_findCellsBeside_26 : decode cX1_findCellsBeside 26 = .ok (.aload_n 0, 1) := by decide +kernel
theorem dX1_findCellsBeside_27 : decode cX1_findCellsBeside 27 = .ok (.getfield 54, 3) := by decide +kernel
theorem dX1_findCellsBeside_30 : decode cX1_findCellsBeside 30 = .ok (.idiv, 1) := by decide +kernel
theorem dX1_findCellsBeside_31 : decode cX1_findCellsBeside 31 = .ok (.goto 4, 3) := by decide +kernel
theorem dX1_findCellsBeside_34 : decode cX1_findCellsBeside 34 = .ok (.iconst 0, 1) := by decide +kernel
theorem dX1_findCellsBeside_35 : decode cX1_findCellsBeside 35 = .ok (.istore_n 3, 1) := by decide +kernel
theorem dX1_findCellsBeside_36 : decode cX1_findCellsBeside 36 = .ok (.iconst 0, 1) := by decide +kernel
theorem dX1_findCellsBeside_37 : decode cX1_findCellsBeside 37 = .ok (.istore 4, 2) := by decide +kernel
theorem dX1_findCellsBeside_39 : decode cX1_findCellsBeside 39 = .ok (.iload 4, 2) := by decide +kernel
theorem dX1_findCellsBeside_41 : decode cX1_findCellsBeside 41 = .ok (.bipush 6, 2) := by decide +kernel
theorem dX1_findCellsBeside_43 : decode cX1_findCellsBeside 43 = .ok (.if_icmp .ge 95, 3) := by decide +kernel
theorem dX1_findCellsBeside_46 : decode cX1_findCellsBeside 46 = .ok (.iload_n 2, 1) := by decide +kernel
theorem dX1_findCellsBeside_47 : decode cX1_findCellsBeside 47 = .ok (.getstatic 91, 3) := by decide +kernel
theorem dX1_findCellsBeside_50 : decode cX1_findCellsBeside 50 = .ok (.iload 4, 2) := by decide +kernel
theorem dX1_findCellsBeside_52 : decode cX1_findCellsBeside 52 = .ok (.iaload, 1) := by decide +kernel
theorem dX1_findCellsBeside_53 : decode cX1_findCellsBeside 53 = .ok (.iadd, 1) := by decide +kernel
theorem dX1_findCellsBeside_54 : decode cX1_findCellsBeside 54 = .ok (.istore 5, 2) := by decide +kernel
theorem dX1_findCellsBeside_56 : decode cX1_findCellsBeside 56 = .ok (.iload_n 3, 1) := by decide +kernel
theorem dX1_findCellsBeside_57 : decode cX1_findCellsBeside 57 = .ok (.getstatic 94, 3) := by decide +kernel
theorem dX1_findCellsBeside_60 : decode cX1_findCellsBeside 60 = .ok (.iload 4, 2) := by decide +kernel
theorem dX1_findCellsBeside_62 : decode cX1_findCellsBeside 62 = .ok (.iaload, 1) := by decide +kernel
theorem dX1_findCellsBeside_63 : decode cX1_findCellsBeside 63 = .ok (.iadd, 1) := by decide +kernel
theorem dX1_findCellsBeside_64 : decode cX1_findCellsBeside 64 = .ok (.istore 6, 2) := by decide +kernel
theorem dX1_findCellsBeside_66 : decode cX1_findCellsBeside 66 = .ok (.iload 5, 2) := by decide +kernel
theorem dX1_findCellsBeside_68 : decode cX1_findCellsBeside 68 = .ok (.ifCond .lt 30, 3) := by decide +kernel
theorem dX1_findCellsBeside_71 : decode cX1_findCellsBeside 71 = .ok (.iload 5, 2) := by decide +kernel
theorem dX1_findCellsBeside_73 : decode cX1_findCellsBeside 73 = .ok (.aload_n 0, 1) := by decide +kernel
theorem dX1_findCellsBeside_74 : decode cX1_findCellsBeside 74 = .ok (.getfield 54, 3) := by decide +kernel
theorem dX1_findCellsBeside_77 : decode cX1_findCellsBeside 77 = .ok (.if_icmp .ge 21, 3) := by decide +kernel
theorem dX1_findCellsBeside_80 : decode cX1_findCellsBeside 80 = .ok (.iload 6, 2) := by decide +kernel
theorem dX1_findCellsBeside_82 : decode cX1_findCellsBeside 82 = .ok (.ifCond .lt 16, 3) := by decide +kernel
theorem dX1_findCellsBeside_85 : decode cX1_findCellsBeside 85 = .ok (.iload 6, 2) := by decide +kernel
theorem dX1_findCellsBeside_87 : decode cX1_findCellsBeside 87 = .ok (.aload_n 0, 1) := by decide +kernel
theorem dX1_findCellsBeside_88 : decode cX1_findCellsBeside 88 = .ok (.getfield 58, 3) := by decide +kernel
theorem dX1_findCellsBeside_91 : decode cX1_findCellsBeside 91 = .ok (.if_icmp .ge 7, 3) := by decide +kernel
theorem dX1_findCellsBeside_94 : decode cX1_findCellsBeside 94 = .ok (.iconst 1, 1) := by decide +kernel
theorem dX1_findCellsBeside_95 : decode cX1_findCellsBeside 95 = .ok (.goto 4, 3) := by decide +kernel
theorem dX1_findCellsBeside_98 : decode cX1_findCellsBeside 98 = .ok (.iconst 0, 1) := by decide +kernel
theorem dX1_findCellsBeside_99 : decode cX1_findCellsBeside 99 = .ok (.istore 7, 2) := by decide +kernel
theorem dX1_findCellsBeside_101 : decode cX1_findCellsBeside 101 = .ok (.aload_n 0, 1) := by decide +kernel
theorem dX1_findCellsBeside_102 : decode cX1_findCellsBeside 102 = .ok (.getfield 27, 3) := by decide +kernel
theorem dX1_findCellsBeside_105 : decode cX1_findCellsBeside 105 = .ok (.iload_n 1, 1) := by decide +kernel
theorem dX1_findCellsBeside_106 : decode cX1_findCellsBeside 106 = .ok (.bipush 6, 2) := by decide +kernel
theorem dX1_findCellsBeside_108 : decode cX1_findCellsBeside 108 = .ok (.imul, 1) := by decide +kernel
theorem dX1_findCellsBeside_109 : decode cX1_findCellsBeside 109 = .ok (.iload 4, 2) := by decide +kernel
theorem dX1_findCellsBeside_111 : decode cX1_findCellsBeside 111 = .ok (.iadd, 1) := by decide +kernel
theorem dX1_findCellsBeside_112 : decode cX1_findCellsBeside 112 = .ok (.iload 7, 2) := by decide +kernel
theorem dX1_findCellsBeside_114 : decode cX1_findCellsBeside 114 = .ok (.ifCond .eq 16, 3) := by decide +kernel
theorem dX1_findCellsBeside_117 : decode cX1_findCellsBeside 117 = .ok (.iload 6, 2) := by decide +kernel
theorem dX1_findCellsBeside_119 : decode cX1_findCellsBeside 119 = .ok (.aload_n 0, 1) := by decide +kernel
theorem dX1_findCellsBeside_120 : decode cX1_findCellsBeside 120 = .ok (.getfield 54, 3) := by decide +kernel
theorem dX1_findCellsBeside_123 : decode cX1_findCellsBeside 123 = .ok (.imul, 1) := by decide +kernel
theorem dX1_findCellsBeside_124 : decode cX1_findCellsBeside 124 = .ok (.iload 5, 2) := by decide +kernel
theorem dX1_findCellsBeside_126 : decode cX1_findCellsBeside 126 = .ok (.iadd, 1) := by decide +kernel
theorem dX1_findCellsBeside_127 : decode cX1_findCellsBeside 127 = .ok (.goto 4, 3) := by decide +kernel
theorem dX1_findCellsBeside_130 : decode cX1_findCellsBeside 130 = .ok (.iconst (-1), 1) := by decide +kernel
theorem dX1_findCellsBeside_131 : decode cX1_findCellsBeside 131 = .ok (.iastore, 1) := by decide +kernel
theorem dX1_findCellsBeside_132 : decode cX1_findCellsBeside 132 = .ok (.iinc 4 1, 3) := by decide +kernel
theorem dX1_findCellsBeside_135 : decode cX1_findCellsBeside 135 = .ok (.goto (-96), 3) := by decide +kernel
theorem dX1_findCellsBeside_138 : decode cX1_findCellsBeside 138 = .ok (.return_, 1) := by decide +kernel
theorem dX1_learnTile_0 : decode cX1_learnTile 0 = .ok (.iconst 0, 1) := by decide +kernel
theorem dX1_learnTile_1 : decode cX1_learnTile 1 = .ok (.istore_n 3, 1) := by decide +kernel
theorem dX1_learnTile_2 : decode cX1_learnTile 2 = .ok (.iload_n 3, 1) := by decide +kernel
theorem dX1_learnTile_3 : decode cX1_learnTile 3 = .ok (.iconst 3, 1) := by decide +kernel
theorem dX1_learnTile_4 : decode cX1_learnTile 4 = .ok (.if_icmp .ge 28, 3) := by decide +kernel
theorem dX1_learnTile_7 : decode cX1_learnTile 7 = .ok (.aload_n 0, 1) := by decide +kernel
theorem dX1_learnTile_8 : decode cX1_learnTile 8 = .ok (.getfield 21, 3) := by decide +kernel
theorem dX1_learnTile_11 : decode cX1_learnTile 11 = .ok (.iload_n 1, 1) := by decide +kernel
theorem dX1_learnTile_12 : decode cX1_learnTile 12 = .ok (.iconst 3, 1) := by decide +kernel
theorem dX1_learnTile_13 : decode cX1_learnTile 13 = .ok (.imul, 1) := by decide +kernel
theorem dX1_learnTile_14 : decode cX1_learnTile 14 = .ok (.iload_n 3, 1) := by decide +kernel
theorem dX1_learnTile_15 : decode cX1_learnTile 15 = .ok (.iadd, 1) := by decide +kernel
theorem dX1_learnTile_16 : decode cX1_learnTile 16 = .ok (.aload_n 2, 1) := by decide +kernel
theorem dX1_learnTile_17 : decode cX1_learnTile 17 = .ok (.iload_n 1, 1) := by decide +kernel
theorem dX1_learnTile_18 : decode cX1_learnTile 18 = .ok (.iconst 3, 1) := by decide +kernel
theorem dX1_learnTile_19 : decode cX1_learnTile 19 = .ok (.imul, 1) := by decide +kernel
theorem dX1_learnTile_20 : decode cX1_learnTile 20 = .ok (.iload_n 3, 1) := by decide +kernel
theorem dX1_learnTile_21 : decode cX1_learnTile 21 = .ok (.iadd, 1) := by decide +kernel
theorem dX1_learnTile_22 : decode cX1_learnTile 22 = .ok (.invokevirtual 97, 3) := by decide +kernel
theorem dX1_learnTile_25 : decode cX1_learnTile 25 = .ok (.iastore, 1) := by decide +kernel
theorem dX1_learnTile_26 : decode cX1_learnTile 26 = .ok (.iinc 3 1, 3) := by decide +kernel
theorem dX1_learnTile_29 : decode cX1_learnTile 29 = .ok (.goto (-27), 3) := by decide +kernel
theorem dX1_learnTile_32 : decode cX1_learnTile 32 = .ok (.iconst 0, 1) := by decide +kernel
theorem dX1_learnTile_33 : decode cX1_learnTile 33 = .ok (.istore_n 3, 1) := by decide +kernel
theorem dX1_learnTile_34 : decode cX1_learnTile 34 = .ok (.iload_n 3, 1) := by decide +kernel
theorem dX1_learnTile_35 : decode cX1_learnTile 35 = .ok (.bipush 6, 2) := by decide +kernel
theorem dX1_learnTile_37 : decode cX1_learnTile 37 = .ok (.if_icmp .ge 71, 3) := by decide +kernel
theorem dX1_learnTile_40 : decode cX1_learnTile 40 = .ok (.iconst 0, 1) := by decide +kernel
theorem dX1_learnTile_41 : decode cX1_learnTile 41 = .ok (.istore 4, 2) := by decide +kernel
theorem dX1_learnTile_43 : decode cX1_learnTile 43 = .ok (.iload 4, 2) := by decide +kernel
theorem dX1_learnTile_45 : decode cX1_learnTile 45 = .ok (.bipush 6, 2) := by decide +kernel
theorem dX1_learnTile_47 : decode cX1_learnTile 47 = .ok (.if_icmp .ge 55, 3) := by decide +kernel
theorem dX1_learnTile_50 : decode cX1_learnTile 50 = .ok (.aload_n 0, 1) := by decide +kernel
theorem dX1_learnTile_51 : decode cX1_learnTile 51 = .ok (.iload_n 1, 1) := by decide +kernel
theorem dX1_learnTile_52 : decode cX1_learnTile 52 = .ok (.iload_n 3, 1) := by decide +kernel
theorem dX1_learnTile_53 : decode cX1_learnTile 53 = .ok (.iload 4, 2) := by decide +kernel
theorem dX1_learnTile_55 : decode cX1_learnTile 55 = .ok (.invokevirtual 101, 3) := by decide +kernel
theorem dX1_learnTile_58 : decode cX1_learnTile 58 = .ok (.istore 5, 2) := by decide +kernel
theorem dX1_learnTile_60 : decode cX1_learnTile 60 = .ok (.iload 5, 2) := by decide +kernel
theorem dX1_learnTile_62 : decode cX1_learnTile 62 = .ok (.ifCond .lt 34, 3) := by decide +kernel
theorem dX1_learnTile_65 : decode cX1_learnTile 65 = .ok (.iload 5, 2) := by decide +kernel
theorem dX1_learnTile_67 : decode cX1_learnTile 67 = .ok (.bipush 10, 2) := by decide +kernel
theorem dX1_learnTile_69 : decode cX1_learnTile 69 = .ok (.if_icmp .ge 27, 3) := by decide +kernel
theorem dX1_learnTile_72 : decode cX1_learnTile 72 = .ok (.aload_n 0, 1) := by decide +kernel
theorem dX1_learnTile_73 : decode cX1_learnTile 73 = .ok (.getfield 24, 3) := by decide +kernel
theorem dX1_learnTile_76 : decode cX1_learnTile 76 = .ok (.iload_n 1, 1) := by decide +kernel
theorem dX1_learnTile_77 : decode cX1_learnTile 77 = .ok (.bipush 6, 2) := by decide +kernel
theorem dX1_learnTile_79 : decode cX1_learnTile 79 = .ok (.imul, 1) := by decide +kernel
theorem dX1_learnTile_80 : decode cX1_learnTile 80 = .ok (.iload_n 3, 1) := by decide +kernel
theorem dX1_learnTile_81 : decode cX1_learnTile 81 = .ok (.iadd, 1) := by decide +kernel
theorem dX1_learnTile_82 : decode cX1_learnTile 82 = .ok (.bipush 10, 2) := by decide +kernel
theorem dX1_learnTile_84 : decode cX1_learnTile 84 = .ok (.imul, 1) := by decide +kernel
theorem dX1_learnTile_85 : decode cX1_learnTile 85 = .ok (.iload 5, 2) := by decide +kernel
theorem dX1_learnTile_87 : decode cX1_learnTile 87 = .ok (.iadd, 1) := by decide +kernel
theorem dX1_learnTile_88 : decode cX1_learnTile 88 = .ok (.dup2, 1) := by decide +kernel
theorem dX1_learnTile_89 : decode cX1_learnTile 89 = .ok (.iaload, 1) := by decide +kernel
theorem dX1_learnTile_90 : decode cX1_learnTile 90 = .ok (.iconst 1, 1) := by decide +kernel
theorem dX1_learnTile_91 : decode cX1_learnTile 91 = .ok (.iload 4, 2) := by decide +kernel
theorem dX1_learnTile_93 : decode cX1_learnTile 93 = .ok (.ishl, 1) := by decide +kernel
theorem dX1_learnTile_94 : decode cX1_learnTile 94 = .ok (.ior, 1) := by decide +kernel
theorem dX1_learnTile_95 : decode cX1_learnTile 95 = .ok (.iastore, 1) := by decide +kernel
theorem dX1_learnTile_96 : decode cX1_learnTile 96 = .ok (.iinc 4 1, 3) := by decide +kernel
theorem dX1_learnTile_99 : decode cX1_learnTile 99 = .ok (.goto (-56), 3) := by decide +kernel
theorem dX1_learnTile_102 : decode cX1_learnTile 102 = .ok (.iinc 3 1, 3) := by decide +kernel
theorem dX1_learnTile_105 : decode cX1_learnTile 105 = .ok (.goto (-71), 3) := by decide +kernel
theorem dX1_learnTile_108 : decode cX1_learnTile 108 = .ok (.return_, 1) := by decide +kernel
theorem dX1_knows_0 : decode cX1_knows 0 = .ok (.iload_n 1, 1) := by decide +kernel
theorem dX1_knows_1 : decode cX1_knows 1 = .ok (.ifCond .lt 15, 3) := by decide +kernel
theorem dX1_knows_4 : decode cX1_knows 4 = .ok (.iload_n 1, 1) := by decide +kernel
theorem dX1_knows_5 : decode cX1_knows 5 = .ok (.aload_n 0, 1) := by decide +kernel
theorem dX1_knows_6 : decode cX1_knows 6 = .ok (.getfield 72, 3) := by decide +kernel
theorem dX1_knows_9 : decode cX1_knows 9 = .ok (.if_icmp .ge 7, 3) := by decide +kernel
theorem dX1_knows_12 : decode cX1_knows 12 = .ok (.iconst 1, 1) := by decide +kernel
theorem dX1_knows_13 : decode cX1_knows 13 = .ok (.goto 4, 3) := by decide +kernel
theorem dX1_knows_16 : decode cX1_knows 16 = .ok (.iconst 0, 1) := by decide +kernel
theorem dX1_knows_17 : decode cX1_knows 17 = .ok (.ireturn, 1) := by decide +kernel
theorem dX1_lies_0 : decode cX1_lies 0 = .ok (.aload_n 0, 1) := by decide +kernel
theorem dX1_lies_1 : decode cX1_lies 1 = .ok (.iload_n 1, 1) := by decide +kernel
theorem dX1_lies_2 : decode cX1_lies 2 = .ok (.invokevirtual 105, 3) := by decide +kernel
theorem dX1_lies_5 : decode cX1_lies 5 = .ok (.ifCond .eq 16, 3) := by decide +kernel
theorem dX1_lies_8 : decode cX1_lies 8 = .ok (.aload_n 0, 1) := by decide +kernel
theorem dX1_lies_9 : decode cX1_lies 9 = .ok (.getfield 15, 3) := by decide +kernel
theorem dX1_lies_12 : decode cX1_lies 12 = .ok (.iload_n 1, 1) := by decide +kernel
theorem dX1_lies_13 : decode cX1_lies 13 = .ok (.iaload, 1) := by decide +kernel
theorem dX1_lies_14 : decode cX1_lies 14 = .ok (.ifCond .lt 7, 3) := by decide +kernel
theorem dX1_lies_17 : decode cX1_lies 17 = .ok (.iconst 1, 1) := by decide +kernel
theorem dX1_lies_18 : decode cX1_lies 18 = .ok (.goto 4, 3) := by decide +kernel
theorem dX1_lies_21 : decode cX1_lies 21 = .ok (.iconst 0, 1) := by decide +kernel
theorem dX1_lies_22 : decode cX1_lies 22 = .ok (.ireturn, 1) := by decide +kernel
theorem dX1_numberOf_0 : decode cX1_numberOf 0 = .ok (.iload_n 2, 1) := by decide +kernel
theorem dX1_numberOf_1 : decode cX1_numberOf 1 = .ok (.bipush 6, 2) := by decide +kernel
theorem dX1_numberOf_3 : decode cX1_numberOf 3 = .ok (.iadd, 1) := by decide +kernel
theorem dX1_numberOf_4 : decode cX1_numberOf 4 = .ok (.iload_n 3, 1) := by decide +kernel
theorem dX1_numberOf_5 : decode cX1_numberOf 5 = .ok (.isub, 1) := by decide +kernel
theorem dX1_numberOf_6 : decode cX1_numberOf 6 = .ok (.bipush 6, 2) := by decide +kernel
theorem dX1_numberOf_8 : decode cX1_numberOf 8 = .ok (.irem, 1) := by decide +kernel
theorem dX1_numberOf_9 : decode cX1_numberOf 9 = .ok (.istore 4, 2) := by decide +kernel
theorem dX1_numberOf_11 : decode cX1_numberOf 11 = .ok (.aload_n 0, 1) := by decide +kernel
theorem dX1_numberOf_12 : decode cX1_numberOf 12 = .ok (.getfield 21, 3) := by decide +kernel
theorem dX1_numberOf_15 : decode cX1_numberOf 15 = .ok (.iload_n 1, 1) := by decide +kernel
theorem dX1_numberOf_16 : decode cX1_numberOf 16 = .ok (.iconst 3, 1) := by decide +kernel
theorem dX1_numberOf_17 : decode cX1_numberOf 17 = .ok (.imul, 1) := by decide +kernel
theorem dX1_numberOf_18 : decode cX1_numberOf 18 = .ok (.iload 4, 2) := by decide +kernel
theorem dX1_numberOf_20 : decode cX1_numberOf 20 = .ok (.iconst 2, 1) := by decide +kernel
theorem dX1_numberOf_21 : decode cX1_numberOf 21 = .ok (.idiv, 1) := by decide +kernel
theorem dX1_numberOf_22 : decode cX1_numberOf 22 = .ok (.iadd, 1) := by decide +kernel
theorem dX1_numberOf_23 : decode cX1_numberOf 23 = .ok (.iaload, 1) := by decide +kernel
theorem dX1_numberOf_24 : decode cX1_numberOf 24 = .ok (.ireturn, 1) := by decide +kernel
theorem dX1_turnsFitting_0 : decode cX1_turnsFitting 0 = .ok (.aload_n 0, 1) := by decide +kernel
theorem dX1_turnsFitting_1 : decode cX1_turnsFitting 1 = .ok (.getfield 9, 3) := by decide +kernel
theorem dX1_turnsFitting_4 : decode cX1_turnsFitting 4 = .ok (.iload_n 2, 1) := by decide +kernel
theorem dX1_turnsFitting_5 : decode cX1_turnsFitting 5 = .ok (.iaload, 1) := by decide +kernel
theorem dX1_turnsFitting_6 : decode cX1_turnsFitting 6 = .ok (.ifCond .ge 12, 3) := by decide +kernel
theorem dX1_turnsFitting_9 : decode cX1_turnsFitting 9 = .ok (.aload_n 0, 1) := by decide +kernel
theorem dX1_turnsFitting_10 : decode cX1_turnsFitting 10 = .ok (.getfield 15, 3) := by decide +kernel
theorem dX1_turnsFitting_13 : decode cX1_turnsFitting 13 = .ok (.iload_n 1, 1) := by decide +kernel
theorem dX1_turnsFitting_14 : decode cX1_turnsFitting 14 = .ok (.iaload, 1) := by decide +kernel
theorem dX1_turnsFitting_15 : decode cX1_turnsFitting 15 = .ok (.ifCond .lt 5, 3) := by decide +kernel
theorem dX1_turnsFitting_18 : decode cX1_turnsFitting 18 = .ok (.iconst 0, 1) := by decide +kernel
theorem dX1_turnsFitting_19 : decode cX1_turnsFitting 19 = .ok (.ireturn, 1) := by decide +kernel
theorem dX1_turnsFitting_20 : decode cX1_turnsFitting 20 = .ok (.aload_n 0, 1) := by decide +kernel
theorem dX1_turnsFitting_21 : decode cX1_turnsFitting 21 = .ok (.getfield 74, 3) := by decide +kernel
theorem dX1_turnsFitting_24 : decode cX1_turnsFitting 24 = .ok (.ifCond .ne 6, 3) := by decide +kernel
theorem dX1_turnsFitting_27 : decode cX1_turnsFitting 27 = .ok (.bipush 63, 2) := by decide +kernel
theorem dX1_turnsFitting_29 : decode cX1_turnsFitting 29 = .ok (.ireturn, 1) := by decide +kernel
theorem dX1_turnsFitting_30 : decode cX1_turnsFitting 30 = .ok (.aload_n 0, 1) := by decide +kernel
theorem dX1_turnsFitting_31 : decode cX1_turnsFitting 31 = .ok (.getfield 33, 3) := by decide +kernel
theorem dX1_turnsFitting_34 : decode cX1_turnsFitting 34 = .ok (.iload_n 2, 1) := by decide +kernel
theorem dX1_turnsFitting_35 : decode cX1_turnsFitting 35 = .ok (.iaload, 1) := by decide +kernel
theorem dX1_turnsFitting_36 : decode cX1_turnsFitting 36 = .ok (.ifCond .ne 5, 3) := by decide +kernel
theorem dX1_turnsFitting_39 : decode cX1_turnsFitting 39 = .ok (.iconst 0, 1) := by decide +kernel
theorem dX1_turnsFitting_40 : decode cX1_turnsFitting 40 = .ok (.ireturn, 1) := by decide +kernel
theorem dX1_turnsFitting_41 : decode cX1_turnsFitting 41 = .ok (.bipush 63, 2) := by decide +kernel
theorem dX1_turnsFitting_43 : decode cX1_turnsFitting 43 = .ok (.istore_n 3, 1) := by decide +kernel
theorem dX1_turnsFitting_44 : decode cX1_turnsFitting 44 = .ok (.iconst 0, 1) := by decide +kernel
theorem dX1_turnsFitting_45 : decode cX1_turnsFitting 45 = .ok (.istore 4, 2) := by decide +kernel
theorem dX1_turnsFitting_47 : decode cX1_turnsFitting 47 = .ok (.iload 4, 2) := by decide +kernel
theorem dX1_turnsFitting_49 : decode cX1_turnsFitting 49 = .ok (.bipush 6, 2) := by decide +kernel
theorem dX1_turnsFitting_51 : decode cX1_turnsFitting 51 = .ok (.if_icmp .ge 49, 3) := by decide +kernel
theorem dX1_turnsFitting_54 : decode cX1_turnsFitting 54 = .ok (.aload_n 0, 1) := by decide +kernel
theorem dX1_turnsFitting_55 : decode cX1_turnsFitting 55 = .ok (.getfield 30, 3) := by decide +kernel
theorem dX1_turnsFitting_58 : decode cX1_turnsFitting 58 = .ok (.iload_n 2, 1) := by decide +kernel
theorem dX1_turnsFitting_59 : decode cX1_turnsFitting 59 = .ok (.bipush 6, 2) := by decide +kernel
theorem dX1_turnsFitting_61 : decode cX1_turnsFitting 61 = .ok (.imul, 1) := by decide +kernel
theorem dX1_turnsFitting_62 : decode cX1_turnsFitting 62 = .ok (.iload 4, 2) := by decide +kernel
theorem dX1_turnsFitting_64 : decode cX1_turnsFitting 64 = .ok (.iadd, 1) := by decide +kernel
theorem dX1_turnsFitting_65 : decode cX1_turnsFitting 65 = .ok (.iaload, 1) := by decide +kernel
theorem dX1_turnsFitting_66 : decode cX1_turnsFitting 66 = .ok (.istore 5, 2) := by decide +kernel
theorem dX1_turnsFitting_68 : decode cX1_turnsFitting 68 = .ok (.iload 5, 2) := by decide +kernel
theorem dX1_turnsFitting_70 : decode cX1_turnsFitting 70 = .ok (.ifCond .lt 24, 3) := by decide +kernel
theorem dX1_turnsFitting_73 : decode cX1_turnsFitting 73 = .ok (.iload_n 3, 1) := by decide +kernel
theorem dX1_turnsFitting_74 : decode cX1_turnsFitting 74 = .ok (.aload_n 0, 1) := by decide +kernel
theorem dX1_turnsFitting_75 : decode cX1_turnsFitting 75 = .ok (.getfield 24, 3) := by decide +kernel
theorem dX1_turnsFitting_78 : decode cX1_turnsFitting 78 = .ok (.iload_n 1, 1) := by decide +kernel
theorem dX1_turnsFitting_79 : decode cX1_turnsFitting 79 = .ok (.bipush 6, 2) := by decide +kernel
theorem dX1_turnsFitting_81 : decode cX1_turnsFitting 81 = .ok (.imul, 1) := by decide +kernel
theorem dX1_turnsFitting_82 : decode cX1_turnsFitting 82 = .ok (.iload 4, 2) := by decide +kernel
theorem dX1_turnsFitting_84 : decode cX1_turnsFitting 84 = .ok (.iadd, 1) := by decide +kernel
theorem dX1_turnsFitting_85 : decode cX1_turnsFitting 85 = .ok (.bipush 10, 2) := by decide +kernel
theorem dX1_turnsFitting_87 : decode cX1_turnsFitting 87 = .ok (.imul, 1) := by decide +kernel
theorem dX1_turnsFitting_88 : decode cX1_turnsFitting 88 = .ok (.iload 5, 2) := by decide +kernel
theorem dX1_turnsFitting_90 : decode cX1_turnsFitting 90 = .ok (.iadd, 1) := by decide +kernel
theorem dX1_turnsFitting_91 : decode cX1_turnsFitting 91 = .ok (.iaload, 1) := by decide +kernel
theorem dX1_turnsFitting_92 : decode cX1_turnsFitting 92 = .ok (.iand, 1) := by decide +kernel
theorem dX1_turnsFitting_93 : decode cX1_turnsFitting 93 = .ok (.istore_n 3, 1) := by decide +kernel
theorem dX1_turnsFitting_94 : decode cX1_turnsFitting 94 = .ok (.iinc 4 1, 3) := by decide +kernel
theorem dX1_turnsFitting_97 : decode cX1_turnsFitting 97 = .ok (.goto (-50), 3) := by decide +kernel
theorem dX1_turnsFitting_100 : decode cX1_turnsFitting 100 = .ok (.iload_n 3, 1) := by decide +kernel
theorem dX1_turnsFitting_101 : decode cX1_turnsFitting 101 = .ok (.ireturn, 1) := by decide +kernel
theorem dX1_fitsSo_0 : decode cX1_fitsSo 0 = .ok (.aload_n 0, 1) := by decide +kernel
theorem dX1_fitsSo_1 : decode cX1_fitsSo 1 = .ok (.iload_n 1, 1) := by decide +kernel
theorem dX1_fitsSo_2 : decode cX1_fitsSo 2 = .ok (.iload_n 2, 1) := by decide +kernel
theorem dX1_fitsSo_3 : decode cX1_fitsSo 3 = .ok (.invokevirtual 109, 3) := by decide +kernel
theorem dX1_fitsSo_6 : decode cX1_fitsSo 6 = .ok (.iload_n 3, 1) := by decide +kernel
theorem dX1_fitsSo_7 : decode cX1_fitsSo 7 = .ok (.ishr, 1) := by decide +kernel
theorem dX1_fitsSo_8 : decode cX1_fitsSo 8 = .ok (.iconst 1, 1) := by decide +kernel
theorem dX1_fitsSo_9 : decode cX1_fitsSo 9 = .ok (.iand, 1) := by decide +kernel
theorem dX1_fitsSo_10 : decode cX1_fitsSo 10 = .ok (.iconst 1, 1) := by decide +kernel
theorem dX1_fitsSo_11 : decode cX1_fitsSo 11 = .ok (.if_icmp .ne 7, 3) := by decide +kernel
theorem dX1_fitsSo_14 : decode cX1_fitsSo 14 = .ok (.iconst 1, 1) := by decide +kernel
theorem dX1_fitsSo_15 : decode cX1_fitsSo 15 = .ok (.goto 4, 3) := by decide +kernel
theorem dX1_fitsSo_18 : decode cX1_fitsSo 18 = .ok (.iconst 0, 1) := by decide +kernel
theorem dX1_fitsSo_19 : decode cX1_fitsSo 19 = .ok (.ireturn, 1) := by decide +kernel
theorem dX1_countWays_0 : decode cX1_countWays 0 = .ok (.iconst 0, 1) := by decide +kernel
theorem dX1_countWays_1 : decode cX1_countWays 1 = .ok (.istore_n 2, 1) := by decide +kernel
theorem dX1_countWays_2 : decode cX1_countWays 2 = .ok (.iconst 0, 1) := by decide +kernel
theorem dX1_countWays_3 : decode cX1_countWays 3 = .ok (.istore_n 3, 1) := by decide +kernel
theorem dX1_countWays_4 : decode cX1_countWays 4 = .ok (.iload_n 3, 1) := by decide +kernel
theorem dX1_countWays_5 : decode cX1_countWays 5 = .ok (.aload_n 0, 1) := by decide +kernel
theorem dX1_countWays_6 : decode cX1_countWays 6 = .ok (.getfield 65, 3) := by decide +kernel
theorem dX1_countWays_9 : decode cX1_countWays 9 = .ok (.if_icmp .ge 29, 3) := by decide +kernel
theorem dX1_countWays_12 : decode cX1_countWays 12 = .ok (.aload_n 0, 1) := by decide +kernel
theorem dX1_countWays_13 : decode cX1_countWays 13 = .ok (.iload_n 1, 1) := by decide +kernel
theorem dX1_countWays_14 : decode cX1_countWays 14 = .ok (.invokevirtual 105, 3) := by decide +kernel
theorem dX1_countWays_17 : decode cX1_countWays 17 = .ok (.ifCond .eq 21, 3) := by decide +kernel
theorem dX1_countWays_20 : decode cX1_countWays 20 = .ok (.iload_n 2, 1) := by decide +kernel
theorem dX1_countWays_21 : decode cX1_countWays 21 = .ok (.aload_n 0, 1) := by decide +kernel
theorem dX1_countWays_22 : decode cX1_countWays 22 = .ok (.iload_n 1, 1) := by decide +kernel
theorem dX1_countWays_23 : decode cX1_countWays 23 = .ok (.iload_n 3, 1) := by decide +kernel
theorem dX1_countWays_24 : decode cX1_countWays 24 = .ok (.invokevirtual 109, 3) := by decide +kernel
theorem dX1_countWays_27 : decode cX1_countWays 27 = .ok (.invokestatic 112, 3) := by decide +kernel
theorem dX1_countWays_30 : decode cX1_countWays 30 = .ok (.iadd, 1) := by decide +kernel
theorem dX1_countWays_31 : decode cX1_countWays 31 = .ok (.istore_n 2, 1) := by decide +kernel
theorem dX1_countWays_32 : decode cX1_countWays 32 = .ok (.iinc 3 1, 3) := by decide +kernel
theorem dX1_countWays_35 : decode cX1_countWays 35 = .ok (.goto (-31), 3) := by decide +kernel
theorem dX1_countWays_38 : decode cX1_countWays 38 = .ok (.iload_n 2, 1) := by decide +kernel
theorem dX1_countWays_39 : decode cX1_countWays 39 = .ok (.ireturn, 1) := by decide +kernel
theorem dX1_firstCell_0 : decode cX1_firstCell 0 = .ok (.iconst 0, 1) := by decide +kernel
theorem dX1_firstCell_1 : decode cX1_firstCell 1 = .ok (.istore_n 2, 1) := by decide +kernel
theorem dX1_firstCell_2 : decode cX1_firstCell 2 = .ok (.iload_n 2, 1) := by decide +kernel
theorem dX1_firstCell_3 : decode cX1_firstCell 3 = .ok (.aload_n 0, 1) := by decide +kernel
theorem dX1_firstCell_4 : decode cX1_firstCell 4 = .ok (.getfield 65, 3) := by decide +kernel
theorem dX1_firstCell_7 : decode cX1_firstCell 7 = .ok (.if_icmp .ge 28, 3) := by decide +kernel
theorem dX1_firstCell_10 : decode cX1_firstCell 10 = .ok (.aload_n 0, 1) := by decide +kernel
theorem dX1_firstCell_11 : decode cX1_firstCell 11 = .ok (.iload_n 1, 1) := by decide +kernel
theorem dX1_firstCell_12 : decode cX1_firstCell 12 = .ok (.invokevirtual 105, 3) := by decide +kernel
theorem dX1_firstCell_15 : decode cX1_firstCell 15 = .ok (.ifCond .eq 20, 3) := by decide +kernel
theorem dX1_firstCell_18 : decode cX1_firstCell 18 = .ok (.aload_n 0, 1) := by decide +kernel
theorem dX1_firstCell_19 : decode cX1_firstCell 19 = .ok (.iload_n 1, 1) := by decide +kernel
theorem dX1_firstCell_20 : decode cX1_firstCell 20 = .ok (.iload_n 2, 1) := by decide +kernel
theorem dX1_firstCell_21 : decode cX1_firstCell 21 = .ok (.invokevirtual 109, 3) := by decide +kernel
theorem dX1_firstCell_24 : decode cX1_firstCell 24 = .ok (.ifCond .eq 5, 3) := by decide +kernel
theorem dX1_firstCell_27 : decode cX1_firstCell 27 = .ok (.iload_n 2, 1) := by decide +kernel
theorem dX1_firstCell_28 : decode cX1_firstCell 28 = .ok (.ireturn, 1) := by decide +kernel
theorem dX1_firstCell_29 : decode cX1_firstCell 29 = .ok (.iinc 2 1, 3) := by decide +kernel
theorem dX1_firstCell_32 : decode cX1_firstCell 32 = .ok (.goto (-30), 3) := by decide +kernel
theorem dX1_firstCell_35 : decode cX1_firstCell 35 = .ok (.iconst (-1), 1) := by decide +kernel
theorem dX1_firstCell_36 : decode cX1_firstCell 36 = .ok (.ireturn, 1) := by decide +kernel
theorem dX1_firstTurn_0 : decode cX1_firstTurn 0 = .ok (.aload_n 0, 1) := by decide +kernel
theorem dX1_firstTurn_1 : decode cX1_firstTurn 1 = .ok (.iload_n 1, 1) := by decide +kernel
theorem dX1_firstTurn_2 : decode cX1_firstTurn 2 = .ok (.iload_n 2, 1) := by decide +kernel
theorem dX1_firstTurn_3 : decode cX1_firstTurn 3 = .ok (.invokevirtual 109, 3) := by decide +kernel
theorem dX1_firstTurn_6 : decode cX1_firstTurn 6 = .ok (.istore_n 3, 1) := by decide +kernel
theorem dX1_firstTurn_7 : decode cX1_firstTurn 7 = .ok (.iconst 0, 1) := by decide +kernel
theorem dX1_firstTurn_8 : decode cX1_firstTurn 8 = .ok (.istore 4, 2) := by decide +kernel
theorem dX1_firstTurn_10 : decode cX1_firstTurn 10 = .ok (.iload 4, 2) := by decide +kernel
theorem dX1_firstTurn_12 : decode cX1_firstTurn 12 = .ok (.iconst 5, 1) := by decide +kernel
theorem dX1_firstTurn_13 : decode cX1_firstTurn 13 = .ok (.if_icmp .ge 18, 3) := by decide +kernel
theorem dX1_firstTurn_16 : decode cX1_firstTurn 16 = .ok (.iload_n 3, 1) := by decide +kernel
theorem dX1_firstTurn_17 : decode cX1_firstTurn 17 = .ok (.iload 4, 2) := by decide +kernel
theorem dX1_firstTurn_19 : decode cX1_firstTurn 19 = .ok (.ishr, 1) := by decide +kernel
theorem dX1_firstTurn_20 : decode cX1_firstTurn 20 = .ok (.iconst 1, 1) := by decide +kernel
theorem dX1_firstTurn_21 : decode cX1_firstTurn 21 = .ok (.iand, 1) := by decide +kernel
theorem dX1_firstTurn_22 : decode cX1_firstTurn 22 = .ok (.ifCond .ne 9, 3) := by decide +kernel
theorem dX1_firstTurn_25 : decode cX1_firstTurn 25 = .ok (.iinc 4 1, 3) := by decide +kernel
theorem dX1_firstTurn_28 : decode cX1_firstTurn 28 = .ok (.goto (-18), 3) := by decide +kernel
theorem dX1_firstTurn_31 : decode cX1_firstTurn 31 = .ok (.iload 4, 2) := by decide +kernel
theorem dX1_firstTurn_33 : decode cX1_firstTurn 33 = .ok (.ireturn, 1) := by decide +kernel
theorem dX1_firstClash_0 : decode cX1_firstClash 0 = .ok (.iconst 0, 1) := by decide +kernel
theorem dX1_firstClash_1 : decode cX1_firstClash 1 = .ok (.istore 4, 2) := by decide +kernel
theorem dX1_firstClash_3 : decode cX1_firstClash 3 = .ok (.iload 4, 2) := by decide +kernel
theorem dX1_firstClash_5 : decode cX1_firstClash 5 = .ok (.bipush 6, 2) := by decide +kernel
theorem dX1_firstClash_7 : decode cX1_firstClash 7 = .ok (.if_icmp .ge 44, 3) := by decide +kernel
theorem dX1_firstClash_10 : decode cX1_firstClash 10 = .ok (.aload_n 0, 1) := by decide +kernel
theorem dX1_firstClash_11 : decode cX1_firstClash 11 = .ok (.getfield 30, 3) := by decide +kernel
theorem dX1_firstClash_14 : decode cX1_firstClash 14 = .ok (.iload_n 2, 1) := by decide +kernel
theorem dX1_firstClash_15 : decode cX1_firstClash 15 = .ok (.bipush 6, 2) := by decide +kernel
theorem dX1_firstClash_17 : decode cX1_firstClash 17 = .ok (.imul, 1) := by decide +kernel
theorem dX1_firstClash_18 : decode cX1_firstClash 18 = .ok (.iload 4, 2) := by decide +kernel
theorem dX1_firstClash_20 : decode cX1_firstClash 20 = .ok (.iadd, 1) := by decide +kernel
theorem dX1_firstClash_21 : decode cX1_firstClash 21 = .ok (.iaload, 1) := by decide +kernel
theorem dX1_firstClash_22 : decode cX1_firstClash 22 = .ok (.istore 5, 2) := by decide +kernel
theorem dX1_firstClash_24 : decode cX1_firstClash 24 = .ok (.iload 5, 2) := by decide +kernel
theorem dX1_firstClash_26 : decode cX1_firstClash 26 = .ok (.ifCond .lt 19, 3) := by decide +kernel
theorem dX1_firstClash_29 : decode cX1_firstClash 29 = .ok (.iload 5, 2) := by decide +kernel
theorem dX1_firstClash_31 : decode cX1_firstClash 31 = .ok (.aload_n 0, 1) := by decide +kernel
theorem dX1_firstClash_32 : decode cX1_firstClash 32 = .ok (.iload_n 1, 1) := by decide +kernel
theorem dX1_firstClash_33 : decode cX1_firstClash 33 = .ok (.iload 4, 2) := by decide +kernel
theorem dX1_firstClash_35 : decode cX1_firstClash 35 = .ok (.iload_n 3, 1) := by decide +kernel
theorem dX1_firstClash_36 : decode cX1_firstClash 36 = .ok (.invokevirtual 101, 3) := by decide +kernel
theorem dX1_firstClash_39 : decode cX1_firstClash 39 = .ok (.if_icmp .eq 6, 3) := by decide +kernel
theorem dX1_firstClash_42 : decode cX1_firstClash 42 = .ok (.iload 4, 2) := by decide +kernel
theorem dX1_firstClash_44 : decode cX1_firstClash 44 = .ok (.ireturn, 1) := by decide +kernel
theorem dX1_firstClash_45 : decode cX1_firstClash 45 = .ok (.iinc 4 1, 3) := by decide +kernel
theorem dX1_firstClash_48 : decode cX1_firstClash 48 = .ok (.goto (-45), 3) := by decide +kernel
theorem dX1_firstClash_51 : decode cX1_firstClash 51 = .ok (.iconst (-1), 1) := by decide +kernel
theorem dX1_firstClash_52 : decode cX1_firstClash 52 = .ok (.ireturn, 1) := by decide +kernel
theorem dX1_put_0 : decode cX1_put 0 = .ok (.aload_n 0, 1) := by decide +kernel
theorem dX1_put_1 : decode cX1_put 1 = .ok (.getfield 9, 3) := by decide +kernel
theorem dX1_put_4 : decode cX1_put 4 = .ok (.iload_n 2, 1) := by decide +kernel
theorem dX1_put_5 : decode cX1_put 5 = .ok (.iload_n 1, 1) := by decide +kernel
theorem dX1_put_6 : decode cX1_put 6 = .ok (.iastore, 1) := by decide +kernel
theorem dX1_put_7 : decode cX1_put 7 = .ok (.aload_n 0, 1) := by decide +kernel
theorem dX1_put_8 : decode cX1_put 8 = .ok (.getfield 15, 3) := by decide +kernel
theorem dX1_put_11 : decode cX1_put 11 = .ok (.iload_n 1, 1) := by decide +kernel
theorem dX1_put_12 : decode cX1_put 12 = .ok (.iload_n 2, 1) := by decide +kernel
theorem dX1_put_13 : decode cX1_put 13 = .ok (.iastore, 1) := by decide +kernel
theorem dX1_put_14 : decode cX1_put 14 = .ok (.aload_n 0, 1) := by decide +kernel
theorem dX1_put_15 : decode cX1_put 15 = .ok (.getfield 18, 3) := by decide +kernel
theorem dX1_put_18 : decode cX1_put 18 = .ok (.iload_n 1, 1) := by decide +kernel
theorem dX1_put_19 : decode cX1_put 19 = .ok (.iload_n 3, 1) := by decide +kernel
theorem dX1_put_20 : decode cX1_put 20 = .ok (.iastore, 1) := by decide +kernel
theorem dX1_put_21 : decode cX1_put 21 = .ok (.aload_n 0, 1) := by decide +kernel
theorem dX1_put_22 : decode cX1_put 22 = .ok (.dup, 1) := by decide +kernel
theorem dX1_put_23 : decode cX1_put 23 = .ok (.getfield 74, 3) := by decide +kernel
theorem dX1_put_26 : decode cX1_put 26 = .ok (.iconst 1, 1) := by decide +kernel
theorem dX1_put_27 : decode cX1_put 27 = .ok (.iadd, 1) := by decide +kernel
theorem dX1_put_28 : decode cX1_put 28 = .ok (.putfield 74, 3) := by decide +kernel
theorem dX1_put_31 : decode cX1_put 31 = .ok (.iconst 0, 1) := by decide +kernel
theorem dX1_put_32 : decode cX1_put 32 = .ok (.istore 4, 2) := by decide +kernel
theorem dX1_put_34 : decode cX1_put 34 = .ok (.iload 4, 2) := by decide +kernel
theorem dX1_put_36 : decode cX1_put 36 = .ok (.bipush 6, 2) := by decide +kernel
theorem dX1_put_38 : decode cX1_put 38 = .ok (.if_icmp .ge 65, 3) := by decide +kernel
theorem dX1_put_41 : decode cX1_put 41 = .ok (.aload_n 0, 1) := by decide +kernel
theorem dX1_put_42 : decode cX1_put 42 = .ok (.getfield 27, 3) := by decide +kernel
theorem dX1_put_45 : decode cX1_put 45 = .ok (.iload_n 2, 1) := by decide +kernel
theorem dX1_put_46 : decode cX1_put 46 = .ok (.bipush 6, 2) := by decide +kernel
theorem dX1_put_48 : decode cX1_put 48 = .ok (.imul, 1) := by decide +kernel
theorem dX1_put_49 : decode cX1_put 49 = .ok (.iload 4, 2) := by decide +kernel
theorem dX1_put_51 : decode cX1_put 51 = .ok (.iadd, 1) := by decide +kernel
theorem dX1_put_52 : decode cX1_put 52 = .ok (.iaload, 1) := by decide +kernel
theorem dX1_put_53 : decode cX1_put 53 = .ok (.istore 5, 2) := by decide +kernel
theorem dX1_put_55 : decode cX1_put 55 = .ok (.iload 5, 2) := by decide +kernel
theorem dX1_put_57 : decode cX1_put 57 = .ok (.ifCond .lt 40, 3) := by decide +kernel
theorem dX1_put_60 : decode cX1_put 60 = .ok (.aload_n 0, 1) := by decide +kernel
theorem dX1_put_61 : decode cX1_put 61 = .ok (.getfield 30, 3) := by decide +kernel
theorem dX1_put_64 : decode cX1_put 64 = .ok (.iload 5, 2) := by decide +kernel
theorem dX1_put_66 : decode cX1_put 66 = .ok (.bipush 6, 2) := by decide +kernel
theorem dX1_put_68 : decode cX1_put 68 = .ok (.imul, 1) := by decide +kernel
theorem dX1_put_69 : decode cX1_put 69 = .ok (.iload 4, 2) := by decide +kernel
theorem dX1_put_71 : decode cX1_put 71 = .ok (.iconst 3, 1) := by decide +kernel
theorem dX1_put_72 : decode cX1_put 72 = .ok (.iadd, 1) := by decide +kernel
theorem dX1_put_73 : decode cX1_put 73 = .ok (.bipush 6, 2) := by decide +kernel
theorem dX1_put_75 : decode cX1_put 75 = .ok (.irem, 1) := by decide +kernel
theorem dX1_put_76 : decode cX1_put 76 = .ok (.iadd, 1) := by decide +kernel
theorem dX1_put_77 : decode cX1_put 77 = .ok (.aload_n 0, 1) := by decide +kernel
theorem dX1_put_78 : decode cX1_put 78 = .ok (.iload_n 1, 1) := by decide +kernel
theorem dX1_put_79 : decode cX1_put 79 = .ok (.iload 4, 2) := by decide +kernel
theorem dX1_put_81 : decode cX1_put 81 = .ok (.iload_n 3, 1) := by decide +kernel
theorem dX1_put_82 : decode cX1_put 82 = .ok (.invokevirtual 101, 3) := by decide +kernel
theorem dX1_put_85 : decode cX1_put 85 = .ok (.iastore, 1) := by decide +kernel
theorem dX1_put_86 : decode cX1_put 86 = .ok (.aload_n 0, 1) := by decide +kernel
theorem dX1_put_87 : decode cX1_put 87 = .ok (.getfield 33, 3) := by decide +kernel
theorem dX1_put_90 : decode cX1_put 90 = .ok (.iload 5, 2) := by decide +kernel
theorem dX1_put_92 : decode cX1_put 92 = .ok (.dup2, 1) := by decide +kernel
theorem dX1_put_93 : decode cX1_put 93 = .ok (.iaload, 1) := by decide +kernel
theorem dX1_put_94 : decode cX1_put 94 = .ok (.iconst 1, 1) := by decide +kernel
theorem dX1_put_95 : decode cX1_put 95 = .ok (.iadd, 1) := by decide +kernel
theorem dX1_put_96 : decode cX1_put 96 = .ok (.iastore, 1) := by decide +kernel
theorem dX1_put_97 : decode cX1_put 97 = .ok (.iinc 4 1, 3) := by decide +kernel
theorem dX1_put_100 : decode cX1_put 100 = .ok (.goto (-66), 3) := by decide +kernel
theorem dX1_put_103 : decode cX1_put 103 = .ok (.return_, 1) := by decide +kernel
theorem dX1_lift_0 : decode cX1_lift 0 = .ok (.aload_n 0, 1) := by decide +kernel
theorem dX1_lift_1 : decode cX1_lift 1 = .ok (.getfield 15, 3) := by decide +kernel
theorem dX1_lift_4 : decode cX1_lift 4 = .ok (.iload_n 1, 1) := by decide +kernel
theorem dX1_lift_5 : decode cX1_lift 5 = .ok (.iaload, 1) := by decide +kernel
theorem dX1_lift_6 : decode cX1_lift 6 = .ok (.istore_n 2, 1) := by decide +kernel
theorem dX1_lift_7 : decode cX1_lift 7 = .ok (.iload_n 2, 1) := by decide +kernel
theorem dX1_lift_8 : decode cX1_lift 8 = .ok (.ifCond .ge 4, 3) := by decide +kernel
theorem dX1_lift_11 : decode cX1_lift 11 = .ok (.return_, 1) := by decide +kernel
theorem dX1_lift_12 : decode cX1_lift 12 = .ok (.aload_n 0, 1) := by decide +kernel
theorem dX1_lift_13 : decode cX1_lift 13 = .ok (.getfield 9, 3) := by decide +kernel
theorem dX1_lift_16 : decode cX1_lift 16 = .ok (.iload_n 2, 1) := by decide +kernel
theorem dX1_lift_17 : decode cX1_lift 17 = .ok (.iconst (-1), 1) := by decide +kernel
theorem dX1_lift_18 : decode cX1_lift 18 = .ok (.iastore, 1) := by decide +kernel
theorem dX1_lift_19 : decode cX1_lift 19 = .ok (.aload_n 0, 1) := by decide +kernel
theorem dX1_lift_20 : decode cX1_lift 20 = .ok (.getfield 15, 3) := by decide +kernel
theorem dX1_lift_23 : decode cX1_lift 23 = .ok (.iload_n 1, 1) := by decide +kernel
theorem dX1_lift_24 : decode cX1_lift 24 = .ok (.iconst (-1), 1) := by decide +kernel
theorem dX1_lift_25 : decode cX1_lift 25 = .ok (.iastore, 1) := by decide +kernel
theorem dX1_lift_26 : decode cX1_lift 26 = .ok (.aload_n 0, 1) := by decide +kernel
theorem dX1_lift_27 : decode cX1_lift 27 = .ok (.dup, 1) := by decide +kernel
theorem dX1_lift_28 : decode cX1_lift 28 = .ok (.getfield 74, 3) := by decide +kernel
theorem dX1_lift_31 : decode cX1_lift 31 = .ok (.iconst 1, 1) := by decide +kernel
theorem dX1_lift_32 : decode cX1_lift 32 = .ok (.isub, 1) := by decide +kernel
theorem dX1_lift_33 : decode cX1_lift 33 = .ok (.putfield 74, 3) := by decide +kernel
theorem dX1_lift_36 : decode cX1_lift 36 = .ok (.iconst 0, 1) := by decide +kernel
theorem dX1_lift_37 : decode cX1_lift 37 = .ok (.istore_n 3, 1) := by decide +kernel
theorem dX1_lift_38 : decode cX1_lift 38 = .ok (.iload_n 3, 1) := by decide +kernel
theorem dX1_lift_39 : decode cX1_lift 39 = .ok (.bipush 6, 2) := by decide +kernel
theorem dX1_lift_41 : decode cX1_lift 41 = .ok (.if_icmp .ge 56, 3) := by decide +kernel
theorem dX1_lift_44 : decode cX1_lift 44 = .ok (.aload_n 0, 1) := by decide +kernel
theorem dX1_lift_45 : decode cX1_lift 45 = .ok (.getfield 27, 3) := by decide +kernel
theorem dX1_lift_48 : decode cX1_lift 48 = .ok (.iload_n 2, 1) := by decide +kernel
theorem dX1_lift_49 : decode cX1_lift 49 = .ok (.bipush 6, 2) := by decide +kernel
theorem dX1_lift_51 : decode cX1_lift 51 = .ok (.imul, 1) := by decide +kernel
theorem dX1_lift_52 : decode cX1_lift 52 = .ok (.iload_n 3, 1) := by decide +kernel
theorem dX1_lift_53 : decode cX1_lift 53 = .ok (.iadd, 1) := by decide +kernel
theorem dX1_lift_54 : decode cX1_lift 54 = .ok (.iaload, 1) := by decide +kernel
theorem dX1_lift_55 : decode cX1_lift 55 = .ok (.istore 4, 2) := by decide +kernel
theorem dX1_lift_57 : decode cX1_lift 57 = .ok (.iload 4, 2) := by decide +kernel
theorem dX1_lift_59 : decode cX1_lift 59 = .ok (.ifCond .lt 32, 3) := by decide +kernel
theorem dX1_lift_62 : decode cX1_lift 62 = .ok (.aload_n 0, 1) := by decide +kernel
theorem dX1_lift_63 : decode cX1_lift 63 = .ok (.getfield 30, 3) := by decide +kernel
theorem dX1_lift_66 : decode cX1_lift 66 = .ok (.iload 4, 2) := by decide +kernel
theorem dX1_lift_68 : decode cX1_lift 68 = .ok (.bipush 6, 2) := by decide +kernel
theorem dX1_lift_70 : decode cX1_lift 70 = .ok (.imul, 1) := by decide +kernel
theorem dX1_lift_71 : decode cX1_lift 71 = .ok (.iload_n 3, 1) := by decide +kernel
theorem dX1_lift_72 : decode cX1_lift 72 = .ok (.iconst 3, 1) := by decide +kernel
theorem dX1_lift_73 : decode cX1_lift 73 = .ok (.iadd, 1) := by decide +kernel
theorem dX1_lift_74 : decode cX1_lift 74 = .ok (.bipush 6, 2) := by decide +kernel
theorem dX1_lift_76 : decode cX1_lift 76 = .ok (.irem, 1) := by decide +kernel
theorem dX1_lift_77 : decode cX1_lift 77 = .ok (.iadd, 1) := by decide +kernel
theorem dX1_lift_78 : decode cX1_lift 78 = .ok (.iconst (-1), 1) := by decide +kernel
theorem dX1_lift_79 : decode cX1_lift 79 = .ok (.iastore, 1) := by decide +kernel
theorem dX1_lift_80 : decode cX1_lift 80 = .ok (.aload_n 0, 1) := by decide +kernel
theorem dX1_lift_81 : decode cX1_lift 81 = .ok (.getfield 33, 3) := by decide +kernel
theorem dX1_lift_84 : decode cX1_lift 84 = .ok (.iload 4, 2) := by decide +kernel
theorem dX1_lift_86 : decode cX1_lift 86 = .ok (.dup2, 1) := by decide +kernel
theorem dX1_lift_87 : decode cX1_lift 87 = .ok (.iaload, 1) := by decide +kernel
theorem dX1_lift_88 : decode cX1_lift 88 = .ok (.iconst 1, 1) := by decide +kernel
theorem dX1_lift_89 : decode cX1_lift 89 = .ok (.isub, 1) := by decide +kernel
theorem dX1_lift_90 : decode cX1_lift 90 = .ok (.iastore, 1) := by decide +kernel
theorem dX1_lift_91 : decode cX1_lift 91 = .ok (.iinc 3 1, 3) := by decide +kernel
theorem dX1_lift_94 : decode cX1_lift 94 = .ok (.goto (-56), 3) := by decide +kernel
theorem dX1_lift_97 : decode cX1_lift 97 = .ok (.return_, 1) := by decide +kernel
theorem dX1_pointsFor_0 : decode cX1_pointsFor 0 = .ok (.iconst 0, 1) := by decide +kernel
theorem dX1_pointsFor_1 : decode cX1_pointsFor 1 = .ok (.istore_n 2, 1) := by decide +kernel
theorem dX1_pointsFor_2 : decode cX1_pointsFor 2 = .ok (.iconst 0, 1) := by decide +kernel
theorem dX1_pointsFor_3 : decode cX1_pointsFor 3 = .ok (.istore_n 3, 1) := by decide +kernel
theorem dX1_pointsFor_4 : decode cX1_pointsFor 4 = .ok (.iload_n 3, 1) := by decide +kernel
theorem dX1_pointsFor_5 : decode cX1_pointsFor 5 = .ok (.bipush 6, 2) := by decide +kernel
theorem dX1_pointsFor_7 : decode cX1_pointsFor 7 = .ok (.if_icmp .ge 59, 3) := by decide +kernel
theorem dX1_pointsFor_10 : decode cX1_pointsFor 10 = .ok (.iload_n 2, 1) := by decide +kernel
theorem dX1_pointsFor_11 : decode cX1_pointsFor 11 = .ok (.aload_n 0, 1) := by decide +kernel
theorem dX1_pointsFor_12 : decode cX1_pointsFor 12 = .ok (.getfield 30, 3) := by decide +kernel
theorem dX1_pointsFor_15 : decode cX1_pointsFor 15 = .ok (.iload_n 1, 1) := by decide +kernel
theorem dX1_pointsFor_16 : decode cX1_pointsFor 16 = .ok (.bipush 6, 2) := by decide +kernel
theorem dX1_pointsFor_18 : decode cX1_pointsFor 18 = .ok (.imul, 1) := by decide +kernel
theorem dX1_pointsFor_19 : decode cX1_pointsFor 19 = .ok (.iload_n 3, 1) := by decide +kernel
theorem dX1_pointsFor_20 : decode cX1_pointsFor 20 = .ok (.iadd, 1) := by decide +kernel
theorem dX1_pointsFor_21 : decode cX1_pointsFor 21 = .ok (.iaload, 1) := by decide +kernel
theorem dX1_pointsFor_22 : decode cX1_pointsFor 22 = .ok (.iconst 0, 1) := by decide +kernel
theorem dX1_pointsFor_23 : decode cX1_pointsFor 23 = .ok (.invokestatic 117, 3) := by decide +kernel
theorem dX1_pointsFor_26 : decode cX1_pointsFor 26 = .ok (.iadd, 1) := by decide +kernel
theorem dX1_pointsFor_27 : decode cX1_pointsFor 27 = .ok (.istore_n 2, 1) := by decide +kernel
theorem dX1_pointsFor_28 : decode cX1_pointsFor 28 = .ok (.aload_n 0, 1) := by decide +kernel
theorem dX1_pointsFor_29 : decode cX1_pointsFor 29 = .ok (.getfield 27, 3) := by decide +kernel
theorem dX1_pointsFor_32 : decode cX1_pointsFor 32 = .ok (.iload_n 1, 1) := by decide +kernel
theorem dX1_pointsFor_33 : decode cX1_pointsFor 33 = .ok (.bipush 6, 2) := by decide +kernel
theorem dX1_pointsFor_35 : decode cX1_pointsFor 35 = .ok (.imul, 1) := by decide +kernel
theorem dX1_pointsFor_36 : decode cX1_pointsFor 36 = .ok (.iload_n 3, 1) := by decide +kernel
theorem dX1_pointsFor_37 : decode cX1_pointsFor 37 = .ok (.iadd, 1) := by decide +kernel
theorem dX1_pointsFor_38 : decode cX1_pointsFor 38 = .ok (.iaload, 1) := by decide +kernel
theorem dX1_pointsFor_39 : decode cX1_pointsFor 39 = .ok (.istore 4, 2) := by decide +kernel
theorem dX1_pointsFor_41 : decode cX1_pointsFor 41 = .ok (.iload 4, 2) := by decide +kernel
theorem dX1_pointsFor_43 : decode cX1_pointsFor 43 = .ok (.ifCond .lt 17, 3) := by decide +kernel
theorem dX1_pointsFor_46 : decode cX1_pointsFor 46 = .ok (.aload_n 0, 1) := by decide +kernel
theorem dX1_pointsFor_47 : decode cX1_pointsFor 47 = .ok (.getfield 33, 3) := by decide +kernel
theorem dX1_pointsFor_50 : decode cX1_pointsFor 50 = .ok (.iload 4, 2) := by decide +kernel
theorem dX1_pointsFor_52 : decode cX1_pointsFor 52 = .ok (.iaload, 1) := by decide +kernel
theorem dX1_pointsFor_53 : decode cX1_pointsFor 53 = .ok (.iconst 5, 1) := by decide +kernel
theorem dX1_pointsFor_54 : decode cX1_pointsFor 54 = .ok (.if_icmp .ne 6, 3) := by decide +kernel
theorem dX1_pointsFor_57 : decode cX1_pointsFor 57 = .ok (.iinc 2 10, 3) := by decide +kernel
theorem dX1_pointsFor_60 : decode cX1_pointsFor 60 = .ok (.iinc 3 1, 3) := by decide +kernel
theorem dX1_pointsFor_63 : decode cX1_pointsFor 63 = .ok (.goto (-59), 3) := by decide +kernel
theorem dX1_pointsFor_66 : decode cX1_pointsFor 66 = .ok (.iload_n 2, 1) := by decide +kernel
theorem dX1_pointsFor_67 : decode cX1_pointsFor 67 = .ok (.ireturn, 1) := by decide +kernel
theorem dX1_richestCell_0 : decode cX1_richestCell 0 = .ok (.iconst (-1), 1) := by decide +kernel
theorem dX1_richestCell_1 : decode cX1_richestCell 1 = .ok (.istore_n 2, 1) := by decide +kernel
theorem dX1_richestCell_2 : decode cX1_richestCell 2 = .ok (.iconst (-1), 1) := by decide +kernel
theorem dX1_richestCell_3 : decode cX1_richestCell 3 = .ok (.istore_n 3, 1) := by decide +kernel
theorem dX1_richestCell_4 : decode cX1_richestCell 4 = .ok (.iconst 0, 1) := by decide +kernel
theorem dX1_richestCell_5 : decode cX1_richestCell 5 = .ok (.istore 4, 2) := by decide +kernel
theorem dX1_richestCell_7 : decode cX1_richestCell 7 = .ok (.iload 4, 2) := by decide +kernel
theorem dX1_richestCell_9 : decode cX1_richestCell 9 = .ok (.aload_n 0, 1) := by decide +kernel
theorem dX1_richestCell_10 : decode cX1_richestCell 10 = .ok (.getfield 65, 3) := by decide +kernel
theorem dX1_richestCell_13 : decode cX1_richestCell 13 = .ok (.if_icmp .ge 39, 3) := by decide +kernel
theorem dX1_richestCell_16 : decode cX1_richestCell 16 = .ok (.aload_n 0, 1) := by decide +kernel
theorem dX1_richestCell_17 : decode cX1_richestCell 17 = .ok (.iload_n 1, 1) := by decide +kernel
theorem dX1_richestCell_18 : decode cX1_richestCell 18 = .ok (.iload 4, 2) := by decide +kernel
theorem dX1_richestCell_20 : decode cX1_richestCell 20 = .ok (.invokevirtual 109, 3) := by decide +kernel
theorem dX1_richestCell_23 : decode cX1_richestCell 23 = .ok (.ifCond .eq 23, 3) := by decide +kernel
theorem dX1_richestCell_26 : decode cX1_richestCell 26 = .ok (.aload_n 0, 1) := by decide +kernel
theorem dX1_richestCell_27 : decode cX1_richestCell 27 = .ok (.iload 4, 2) := by decide +kernel
theorem dX1_richestCell_29 : decode cX1_richestCell 29 = .ok (.invokevirtual 120, 3) := by decide +kernel
theorem dX1_richestCell_32 : decode cX1_richestCell 32 = .ok (.iload_n 3, 1) := by decide +kernel
theorem dX1_richestCell_33 : decode cX1_richestCell 33 = .ok (.if_icmp .le 13, 3) := by decide +kernel
theorem dX1_richestCell_36 : decode cX1_richestCell 36 = .ok (.iload 4, 2) := by decide +kernel
theorem dX1_richestCell_38 : decode cX1_richestCell 38 = .ok (.istore_n 2, 1) := by decide +kernel
theorem dX1_richestCell_39 : decode cX1_richestCell 39 = .ok (.aload_n 0, 1) := by decide +kernel
theorem dX1_richestCell_40 : decode cX1_richestCell 40 = .ok (.iload 4, 2) := by decide +kernel
theorem dX1_richestCell_42 : decode cX1_richestCell 42 = .ok (.invokevirtual 120, 3) := by decide +kernel
theorem dX1_richestCell_45 : decode cX1_richestCell 45 = .ok (.istore_n 3, 1) := by decide +kernel
theorem dX1_richestCell_46 : decode cX1_richestCell 46 = .ok (.iinc 4 1, 3) := by decide +kernel
theorem dX1_richestCell_49 : decode cX1_richestCell 49 = .ok (.goto (-42), 3) := by decide +kernel
theorem dX1_richestCell_52 : decode cX1_richestCell 52 = .ok (.iload_n 2, 1) := by decide +kernel
theorem dX1_richestCell_53 : decode cX1_richestCell 53 = .ok (.ireturn, 1) := by decide +kernel
theorem dX1_richestTile_0 : decode cX1_richestTile 0 = .ok (.iconst (-1), 1) := by decide +kernel
theorem dX1_richestTile_1 : decode cX1_richestTile 1 = .ok (.istore_n 1, 1) := by decide +kernel
theorem dX1_richestTile_2 : decode cX1_richestTile 2 = .ok (.iconst (-1), 1) := by decide +kernel
theorem dX1_richestTile_3 : decode cX1_richestTile 3 = .ok (.istore_n 2, 1) := by decide +kernel
theorem dX1_richestTile_4 : decode cX1_richestTile 4 = .ok (.iconst 0, 1) := by decide +kernel
theorem dX1_richestTile_5 : decode cX1_richestTile 5 = .ok (.istore_n 3, 1) := by decide +kernel
theorem dX1_richestTile_6 : decode cX1_richestTile 6 = .ok (.iload_n 3, 1) := by decide +kernel
theorem dX1_richestTile_7 : decode cX1_richestTile 7 = .ok (.aload_n 0, 1) := by decide +kernel
theorem dX1_richestTile_8 : decode cX1_richestTile 8 = .ok (.getfield 72, 3) := by decide +kernel
theorem dX1_richestTile_11 : decode cX1_richestTile 11 = .ok (.if_icmp .ge 40, 3) := by decide +kernel
theorem dX1_richestTile_14 : decode cX1_richestTile 14 = .ok (.aload_n 0, 1) := by decide +kernel
theorem dX1_richestTile_15 : decode cX1_richestTile 15 = .ok (.iload_n 3, 1) := by decide +kernel
theorem dX1_richestTile_16 : decode cX1_richestTile 16 = .ok (.invokevirtual 123, 3) := by decide +kernel
theorem dX1_richestTile_19 : decode cX1_richestTile 19 = .ok (.istore 4, 2) := by decide +kernel
theorem dX1_richestTile_21 : decode cX1_richestTile 21 = .ok (.iload 4, 2) := by decide +kernel
theorem dX1_richestTile_23 : decode cX1_richestTile 23 = .ok (.ifCond .lt 22, 3) := by decide +kernel
theorem dX1_richestTile_26 : decode cX1_richestTile 26 = .ok (.aload_n 0, 1) := by decide +kernel
theorem dX1_richestTile_27 : decode cX1_richestTile 27 = .ok (.iload 4, 2) := by decide +kernel
theorem dX1_richestTile_29 : decode cX1_richestTile 29 = .ok (.invokevirtual 120, 3) := by decide +kernel
theorem dX1_richestTile_32 : decode cX1_richestTile 32 = .ok (.iload_n 2, 1) := by decide +kernel
theorem dX1_richestTile_33 : decode cX1_richestTile 33 = .ok (.if_icmp .le 12, 3) := by decide +kernel
theorem dX1_richestTile_36 : decode cX1_richestTile 36 = .ok (.iload_n 3, 1) := by decide +kernel
theorem dX1_richestTile_37 : decode cX1_richestTile 37 = .ok (.istore_n 1, 1) := by decide +kernel
theorem dX1_richestTile_38 : decode cX1_richestTile 38 = .ok (.aload_n 0, 1) := by decide +kernel
theorem dX1_richestTile_39 : decode cX1_richestTile 39 = .ok (.iload 4, 2) := by decide +kernel
theorem dX1_richestTile_41 : decode cX1_richestTile 41 = .ok (.invokevirtual 120, 3) := by decide +kernel
theorem dX1_richestTile_44 : decode cX1_richestTile 44 = .ok (.istore_n 2, 1) := by decide +kernel
theorem dX1_richestTile_45 : decode cX1_richestTile 45 = .ok (.iinc 3 1, 3) := by decide +kernel
theorem dX1_richestTile_48 : decode cX1_richestTile 48 = .ok (.goto (-42), 3) := by decide +kernel
theorem dX1_richestTile_51 : decode cX1_richestTile 51 = .ok (.iload_n 1, 1) := by decide +kernel
theorem dX1_richestTile_52 : decode cX1_richestTile 52 = .ok (.ireturn, 1) := by decide +kernel
theorem dX1_matchesOn_0 : decode cX1_matchesOn 0 = .ok (.aload_n 0, 1) := by decide +kernel
theorem dX1_matchesOn_1 : decode cX1_matchesOn 1 = .ok (.getfield 9, 3) := by decide +kernel
theorem dX1_matchesOn_4 : decode cX1_matchesOn 4 = .ok (.iload_n 1, 1) := by decide +kernel
theorem dX1_matchesOn_5 : decode cX1_matchesOn 5 = .ok (.iaload, 1) := by decide +kernel
theorem dX1_matchesOn_6 : decode cX1_matchesOn 6 = .ok (.ifCond .lt 12, 3) := by decide +kernel
theorem dX1_matchesOn_9 : decode cX1_matchesOn 9 = .ok (.aload_n 0, 1) := by decide +kernel
theorem dX1_matchesOn_10 : decode cX1_matchesOn 10 = .ok (.getfield 33, 3) := by decide +kernel
theorem dX1_matchesOn_13 : decode cX1_matchesOn 13 = .ok (.iload_n 1, 1) := by decide +kernel
theorem dX1_matchesOn_14 : decode cX1_matchesOn 14 = .ok (.iaload, 1) := by decide +kernel
theorem dX1_matchesOn_15 : decode cX1_matchesOn 15 = .ok (.goto 4, 3) := by decide +kernel
theorem dX1_matchesOn_18 : decode cX1_matchesOn 18 = .ok (.iconst 0, 1) := by decide +kernel
theorem dX1_matchesOn_19 : decode cX1_matchesOn 19 = .ok (.ireturn, 1) := by decide +kernel
theorem dX1_isEncircled_0 : decode cX1_isEncircled 0 = .ok (.aload_n 0, 1) := by decide +kernel
theorem dX1_isEncircled_1 : decode cX1_isEncircled 1 = .ok (.getfield 33, 3) := by decide +kernel
theorem dX1_isEncircled_4 : decode cX1_isEncircled 4 = .ok (.iload_n 1, 1) := by decide +kernel
theorem dX1_isEncircled_5 : decode cX1_isEncircled 5 = .ok (.iaload, 1) := by decide +kernel
theorem dX1_isEncircled_6 : decode cX1_isEncircled 6 = .ok (.bipush 6, 2) := by decide +kernel
theorem dX1_isEncircled_8 : decode cX1_isEncircled 8 = .ok (.if_icmp .ne 7, 3) := by decide +kernel
theorem dX1_isEncircled_11 : decode cX1_isEncircled 11 = .ok (.iconst 1, 1) := by decide +kernel
theorem dX1_isEncircled_12 : decode cX1_isEncircled 12 = .ok (.goto 4, 3) := by decide +kernel
theorem dX1_isEncircled_15 : decode cX1_isEncircled 15 = .ok (.iconst 0, 1) := by decide +kernel
theorem dX1_isEncircled_16 : decode cX1_isEncircled 16 = .ok (.ireturn, 1) := by decide +kernel
theorem dX1_countMatches_0 : decode cX1_countMatches 0 = .ok (.iconst 0, 1) := by decide +kernel
theorem dX1_countMatches_1 : decode cX1_countMatches 1 = .ok (.istore_n 1, 1) := by decide +kernel
theorem dX1_countMatches_2 : decode cX1_countMatches 2 = .ok (.iconst 0, 1) := by decide +kernel
theorem dX1_countMatches_3 : decode cX1_countMatches 3 = .ok (.istore_n 2, 1) := by decide +kernel
theorem dX1_countMatches_4 : decode cX1_countMatches 4 = .ok (.iload_n 2, 1) := by decide +kernel
theorem dX1_countMatches_5 : decode cX1_countMatches 5 = .ok (.aload_n 0, 1) := by decide +kernel
theorem dX1_countMatches_6 : decode cX1_countMatches 6 = .ok (.getfield 65, 3) := by decide +kernel
theorem dX1_countMatches_9 : decode cX1_countMatches 9 = .ok (.if_icmp .ge 17, 3) := by decide +kernel
theorem dX1_countMatches_12 : decode cX1_countMatches 12 = .ok (.iload_n 1, 1) := by decide +kernel
theorem dX1_countMatches_13 : decode cX1_countMatches 13 = .ok (.aload_n 0, 1) := by decide +kernel
theorem dX1_countMatches_14 : decode cX1_countMatches 14 = .ok (.iload_n 2, 1) := by decide +kernel
theorem dX1_countMatches_15 : decode cX1_countMatches 15 = .ok (.invokevirtual 126, 3) := by decide +kernel
theorem dX1_countMatches_18 : decode cX1_countMatches 18 = .ok (.iadd, 1) := by decide +kernel
theorem dX1_countMatches_19 : decode cX1_countMatches 19 = .ok (.istore_n 1, 1) := by decide +kernel
theorem dX1_countMatches_20 : decode cX1_countMatches 20 = .ok (.iinc 2 1, 3) := by decide +kernel
theorem dX1_countMatches_23 : decode cX1_countMatches 23 = .ok (.goto (-19), 3) := by decide +kernel
theorem dX1_countMatches_26 : decode cX1_countMatches 26 = .ok (.iload_n 1, 1) := by decide +kernel
theorem dX1_countMatches_27 : decode cX1_countMatches 27 = .ok (.iconst 2, 1) := by decide +kernel
theorem dX1_countMatches_28 : decode cX1_countMatches 28 = .ok (.idiv, 1) := by decide +kernel
theorem dX1_countMatches_29 : decode cX1_countMatches 29 = .ok (.ireturn, 1) := by decide +kernel
theorem dX1_sumOfMatches_0 : decode cX1_sumOfMatches 0 = .ok (.iconst 0, 1) := by decide +kernel
theorem dX1_sumOfMatches_1 : decode cX1_sumOfMatches 1 = .ok (.istore_n 1, 1) := by decide +kernel
theorem dX1_sumOfMatches_2 : decode cX1_sumOfMatches 2 = .ok (.iconst 0, 1) := by decide +kernel
theorem dX1_sumOfMatches_3 : decode cX1_sumOfMatches 3 = .ok (.istore_n 2, 1) := by decide +kernel
theorem dX1_sumOfMatches_4 : decode cX1_sumOfMatches 4 = .ok (.iload_n 2, 1) := by decide +kernel
theorem dX1_sumOfMatches_5 : decode cX1_sumOfMatches 5 = .ok (.aload_n 0, 1) := by decide +kernel
theorem dX1_sumOfMatches_6 : decode cX1_sumOfMatches 6 = .ok (.getfield 65, 3) := by decide +kernel
theorem dX1_sumOfMatches_9 : decode cX1_sumOfMatches 9 = .ok (.if_icmp .ge 49, 3) := by decide +kernel
theorem dX1_sumOfMatches_12 : decode cX1_sumOfMatches 12 = .ok (.iconst 0, 1) := by decide +kernel
theorem dX1_sumOfMatches_13 : decode cX1_sumOfMatches 13 = .ok (.istore_n 3, 1) := by decide +kernel
theorem dX1_sumOfMatches_14 : decode cX1_sumOfMatches 14 = .ok (.aload_n 0, 1) := by decide +kernel
theorem dX1_sumOfMatches_15 : decode cX1_sumOfMatches 15 = .ok (.getfield 9, 3) := by decide +kernel
theorem dX1_sumOfMatches_18 : decode cX1_sumOfMatches 18 = .ok (.iload_n 2, 1) := by decide +kernel
theorem dX1_sumOfMatches_19 : decode cX1_sumOfMatches 19 = .ok (.iaload, 1) := by decide +kernel
theorem dX1_sumOfMatches_20 : decode cX1_sumOfMatches 20 = .ok (.ifCond .lt 32, 3) := by decide +kernel
theorem dX1_sumOfMatches_23 : decode cX1_sumOfMatches 23 = .ok (.iload_n 3, 1) := by decide +kernel
theorem dX1_sumOfMatches_24 : decode cX1_sumOfMatches 24 = .ok (.iconst 3, 1) := by decide +kernel
theorem dX1_sumOfMatches_25 : decode cX1_sumOfMatches 25 = .ok (.if_icmp .ge 27, 3) := by decide +kernel
theorem dX1_sumOfMatches_28 : decode cX1_sumOfMatches 28 = .ok (.iload_n 1, 1) := by decide +kernel
theorem dX1_sumOfMatches_29 : decode cX1_sumOfMatches 29 = .ok (.aload_n 0, 1) := by decide +kernel
theorem dX1_sumOfMatches_30 : decode cX1_sumOfMatches 30 = .ok (.getfield 30, 3) := by decide +kernel
theorem dX1_sumOfMatches_33 : decode cX1_sumOfMatches 33 = .ok (.iload_n 2, 1) := by decide +kernel
theorem dX1_sumOfMatches_34 : decode cX1_sumOfMatches 34 = .ok (.bipush 6, 2) := by decide +kernel
theorem dX1_sumOfMatches_36 : decode cX1_sumOfMatches 36 = .ok (.imul, 1) := by decide +kernel
theorem dX1_sumOfMatches_37 : decode cX1_sumOfMatches 37 = .ok (.iload_n 3, 1) := by decide +kernel
theorem dX1_sumOfMatches_38 : decode cX1_sumOfMatches 38 = .ok (.iadd, 1) := by decide +kernel
theorem dX1_sumOfMatches_39 : decode cX1_sumOfMatches 39 = .ok (.iaload, 1) := by decide +kernel
theorem dX1_sumOfMatches_40 : decode cX1_sumOfMatches 40 = .ok (.iconst 0, 1) := by decide +kernel
theorem dX1_sumOfMatches_41 : decode cX1_sumOfMatches 41 = .ok (.invokestatic 117, 3) := by decide +kernel
theorem dX1_sumOfMatches_44 : decode cX1_sumOfMatches 44 = .ok (.iadd, 1) := by decide +kernel
theorem dX1_sumOfMatches_45 : decode cX1_sumOfMatches 45 = .ok (.istore_n 1, 1) := by decide +kernel
theorem dX1_sumOfMatches_46 : decode cX1_sumOfMatches 46 = .ok (.iinc 3 1, 3) := by decide +kernel
theorem dX1_sumOfMatches_49 : decode cX1_sumOfMatches 49 = .ok (.goto (-35), 3) := by decide +kernel
theorem dX1_sumOfMatches_52 : decode cX1_sumOfMatches 52 = .ok (.iinc 2 1, 3) := by decide +kernel
theorem dX1_sumOfMatches_55 : decode cX1_sumOfMatches 55 = .ok (.goto (-51), 3) := by decide +kernel
theorem dX1_sumOfMatches_58 : decode cX1_sumOfMatches 58 = .ok (.iload_n 1, 1) := by decide +kernel
theorem dX1_sumOfMatches_59 : decode cX1_sumOfMatches 59 = .ok (.ireturn, 1) := by decide +kernel
theorem dX1_countRings_0 : decode cX1_countRings 0 = .ok (.iconst 0, 1) := by decide +kernel
theorem dX1_countRings_1 : decode cX1_countRings 1 = .ok (.istore_n 1, 1) := by decide +kernel
theorem dX1_countRings_2 : decode cX1_countRings 2 = .ok (.iconst 0, 1) := by decide +kernel
theorem dX1_countRings_3 : decode cX1_countRings 3 = .ok (.istore_n 2, 1) := by decide +kernel
theorem dX1_countRings_4 : decode cX1_countRings 4 = .ok (.iload_n 2, 1) := by decide +kernel
theorem dX1_countRings_5 : decode cX1_countRings 5 = .ok (.aload_n 0, 1) := by decide +kernel
theorem dX1_countRings_6 : decode cX1_countRings 6 = .ok (.getfield 65, 3) := by decide +kernel
theorem dX1_countRings_9 : decode cX1_countRings 9 = .ok (.if_icmp .ge 20, 3) := by decide +kernel
theorem dX1_countRings_12 : decode cX1_countRings 12 = .ok (.aload_n 0, 1) := by decide +kernel
theorem dX1_countRings_13 : decode cX1_countRings 13 = .ok (.iload_n 2, 1) := by decide +kernel
theorem dX1_countRings_14 : decode cX1_countRings 14 = .ok (.invokevirtual 129, 3) := by decide +kernel
theorem dX1_countRings_17 : decode cX1_countRings 17 = .ok (.ifCond .eq 6, 3) := by decide +kernel
theorem dX1_countRings_20 : decode cX1_countRings 20 = .ok (.iinc 1 1, 3) := by decide +kernel
theorem dX1_countRings_23 : decode cX1_countRings 23 = .ok (.iinc 2 1, 3) := by decide +kernel
theorem dX1_countRings_26 : decode cX1_countRings 26 = .ok (.goto (-22), 3) := by decide +kernel
theorem dX1_countRings_29 : decode cX1_countRings 29 = .ok (.iload_n 1, 1) := by decide +kernel
theorem dX1_countRings_30 : decode cX1_countRings 30 = .ok (.ireturn, 1) := by decide +kernel
theorem dX1_countPoints_0 : decode cX1_countPoints 0 = .ok (.aload_n 0, 1) := by decide +kernel
theorem dX1_countPoints_1 : decode cX1_countPoints 1 = .ok (.invokevirtual 132, 3) := by decide +kernel
theorem dX1_countPoints_4 : decode cX1_countPoints 4 = .ok (.bipush 10, 2) := by decide +kernel
theorem dX1_countPoints_6 : decode cX1_countPoints 6 = .ok (.aload_n 0, 1) := by decide +kernel
theorem dX1_countPoints_7 : decode cX1_countPoints 7 = .ok (.invokevirtual 135, 3) := by decide +kernel
theorem dX1_countPoints_10 : decode cX1_countPoints 10 = .ok (.imul, 1) := by decide +kernel
theorem dX1_countPoints_11 : decode cX1_countPoints 11 = .ok (.iadd, 1) := by decide +kernel
theorem dX1_countPoints_12 : decode cX1_countPoints 12 = .ok (.ireturn, 1) := by decide +kernel
theorem dX1_countGroups_0 : decode cX1_countGroups 0 = .ok (.aload_n 0, 1) := by decide +kernel
theorem dX1_countGroups_1 : decode cX1_countGroups 1 = .ok (.getfield 45, 3) := by decide +kernel
theorem dX1_countGroups_4 : decode cX1_countGroups 4 = .ok (.iconst 0, 1) := by decide +kernel
theorem dX1_countGroups_5 : decode cX1_countGroups 5 = .ok (.invokestatic 77, 3) := by decide +kernel
theorem dX1_countGroups_8 : decode cX1_countGroups 8 = .ok (.iconst 0, 1) := by decide +kernel
theorem dX1_countGroups_9 : decode cX1_countGroups 9 = .ok (.istore_n 1, 1) := by decide +kernel
theorem dX1_countGroups_10 : decode cX1_countGroups 10 = .ok (.iconst 0, 1) := by decide +kernel
theorem dX1_countGroups_11 : decode cX1_countGroups 11 = .ok (.istore_n 2, 1) := by decide +kernel
theorem dX1_countGroups_12 : decode cX1_countGroups 12 = .ok (.iload_n 2, 1) := by decide +kernel
theorem dX1_countGroups_13 : decode cX1_countGroups 13 = .ok (.aload_n 0, 1) := by decide +kernel
theorem dX1_countGroups_14 : decode cX1_countGroups 14 = .ok (.getfield 65, 3) := by decide +kernel
theorem dX1_countGroups_17 : decode cX1_countGroups 17 = .ok (.if_icmp .ge 36, 3) := by decide +kernel
theorem dX1_countGroups_20 : decode cX1_countGroups 20 = .ok (.aload_n 0, 1) := by decide +kernel
theorem dX1_countGroups_21 : decode cX1_countGroups 21 = .ok (.getfield 9, 3) := by decide +kernel
theorem dX1_countGroups_24 : decode cX1_countGroups 24 = .ok (.iload_n 2, 1) := by decide +kernel
theorem dX1_countGroups_25 : decode cX1_countGroups 25 = .ok (.iaload, 1) := by decide +kernel
theorem dX1_countGroups_26 : decode cX1_countGroups 26 = .ok (.ifCond .lt 21, 3) := by decide +kernel
theorem dX1_countGroups_29 : decode cX1_countGroups 29 = .ok (.aload_n 0, 1) := by decide +kernel
theorem dX1_countGroups_30 : decode cX1_countGroups 30 = .ok (.getfield 45, 3) := by decide +kernel
theorem dX1_countGroups_33 : decode cX1_countGroups 33 = .ok (.iload_n 2, 1) := by decide +kernel
theorem dX1_countGroups_34 : decode cX1_countGroups 34 = .ok (.iaload, 1) := by decide +kernel
theorem dX1_countGroups_35 : decode cX1_countGroups 35 = .ok (.ifCond .ne 12, 3) := by decide +kernel
theorem dX1_countGroups_38 : decode cX1_countGroups 38 = .ok (.iinc 1 1, 3) := by decide +kernel
theorem dX1_countGroups_41 : decode cX1_countGroups 41 = .ok (.aload_n 0, 1) := by decide +kernel
theorem dX1_countGroups_42 : decode cX1_countGroups 42 = .ok (.iload_n 2, 1) := by decide +kernel
theorem dX1_countGroups_43 : decode cX1_countGroups 43 = .ok (.iload_n 1, 1) := by decide +kernel
theorem dX1_countGroups_44 : decode cX1_countGroups 44 = .ok (.invokevirtual 138, 3) := by decide +kernel
theorem dX1_countGroups_47 : decode cX1_countGroups 47 = .ok (.iinc 2 1, 3) := by decide +kernel
theorem dX1_countGroups_50 : decode cX1_countGroups 50 = .ok (.goto (-38), 3) := by decide +kernel
theorem dX1_countGroups_53 : decode cX1_countGroups 53 = .ok (.iload_n 1, 1) := by decide +kernel
theorem dX1_countGroups_54 : decode cX1_countGroups 54 = .ok (.ireturn, 1) := by decide +kernel
theorem dX1_markGroup_0 : decode cX1_markGroup 0 = .ok (.aload_n 0, 1) := by decide +kernel
theorem dX1_markGroup_1 : decode cX1_markGroup 1 = .ok (.getfield 42, 3) := by decide +kernel
theorem dX1_markGroup_4 : decode cX1_markGroup 4 = .ok (.iconst 0, 1) := by decide +kernel
theorem dX1_markGroup_5 : decode cX1_markGroup 5 = .ok (.iload_n 1, 1) := by decide +kernel
theorem dX1_markGroup_6 : decode cX1_markGroup 6 = .ok (.iastore, 1) := by decide +kernel
theorem dX1_markGroup_7 : decode cX1_markGroup 7 = .ok (.aload_n 0, 1) := by decide +kernel
theorem dX1_markGroup_8 : decode cX1_markGroup 8 = .ok (.getfield 45, 3) := by decide +kernel
theorem dX1_markGroup_11 : decode cX1_markGroup 11 = .ok (.iload_n 1, 1) := by decide +kernel
theorem dX1_markGroup_12 : decode cX1_markGroup 12 = .ok (.iload_n 2, 1) := by decide +kernel
theorem dX1_markGroup_13 : decode cX1_markGroup 13 = .ok (.iastore, 1) := by decide +kernel
theorem dX1_markGroup_14 : decode cX1_markGroup 14 = .ok (.iconst 1, 1) := by decide +kernel
theorem dX1_markGroup_15 : decode cX1_markGroup 15 = .ok (.istore_n 3, 1) := by decide +kernel
theorem dX1_markGroup_16 : decode cX1_markGroup 16 = .ok (.iconst 0, 1) := by decide +kernel
theorem dX1_markGroup_17 : decode cX1_markGroup 17 = .ok (.istore 4, 2) := by decide +kernel
theorem dX1_markGroup_19 : decode cX1_markGroup 19 = .ok (.iload 4, 2) := by decide +kernel
theorem dX1_markGroup_21 : decode cX1_markGroup 21 = .ok (.iload_n 3, 1) := by decide +kernel
theorem dX1_markGroup_22 : decode cX1_markGroup 22 = .ok (.if_icmp .ge 106, 3) := by decide +kernel
theorem dX1_markGroup_25 : decode cX1_markGroup 25 = .ok (.iload 4, 2) := by decide +kernel
theorem dX1_markGroup_27 : decode cX1_markGroup 27 = .ok (.aload_n 0, 1) := by decide +kernel
theorem dX1_markGroup_28 : decode cX1_markGroup 28 = .ok (.getfield 65, 3) := by decide +kernel
theorem dX1_markGroup_31 : decode cX1_markGroup 31 = .ok (.if_icmp .ge 97, 3) := by decide +kernel
theorem dX1_markGroup_34 : decode cX1_markGroup 34 = .ok (.iconst 0, 1) := by decide +kernel
theorem dX1_markGroup_35 : decode cX1_markGroup 35 = .ok (.istore 5, 2) := by decide +kernel
theorem dX1_markGroup_37 : decode cX1_markGroup 37 = .ok (.iload 5, 2) := by decide +kernel
theorem dX1_markGroup_39 : decode cX1_markGroup 39 = .ok (.bipush 6, 2) := by decide +kernel
theorem dX1_markGroup_41 : decode cX1_markGroup 41 = .ok (.if_icmp .ge 81, 3) := by decide +kernel
theorem dX1_markGroup_44 : decode cX1_markGroup 44 = .ok (.aload_n 0, 1) := by decide +kernel
theorem dX1_markGroup_45 : decode cX1_markGroup 45 = .ok (.getfield 27, 3) := by decide +kernel
theorem dX1_markGroup_48 : decode cX1_markGroup 48 = .ok (.aload_n 0, 1) := by decide +kernel
theorem dX1_markGroup_49 : decode cX1_markGroup 49 = .ok (.getfield 42, 3) := by decide +kernel
theorem dX1_markGroup_52 : decode cX1_markGroup 52 = .ok (.iload 4, 2) := by decide +kernel
theorem dX1_markGroup_54 : decode cX1_markGroup 54 = .ok (.iaload, 1) := by decide +kernel
theorem dX1_markGroup_55 : decode cX1_markGroup 55 = .ok (.bipush 6, 2) := by decide +kernel
theorem dX1_markGroup_57 : decode cX1_markGroup 57 = .ok (.imul, 1) := by decide +kernel
theorem dX1_markGroup_58 : decode cX1_markGroup 58 = .ok (.iload 5, 2) := by decide +kernel
theorem dX1_markGroup_60 : decode cX1_markGroup 60 = .ok (.iadd, 1) := by decide +kernel
theorem dX1_markGroup_61 : decode cX1_markGroup 61 = .ok (.iaload, 1) := by decide +kernel
theorem dX1_markGroup_62 : decode cX1_markGroup 62 = .ok (.istore 6, 2) := by decide +kernel
theorem dX1_markGroup_64 : decode cX1_markGroup 64 = .ok (.iload 6, 2) := by decide +kernel
theorem dX1_markGroup_66 : decode cX1_markGroup 66 = .ok (.ifCond .lt 50, 3) := by decide +kernel
theorem dX1_markGroup_69 : decode cX1_markGroup 69 = .ok (.aload_n 0, 1) := by decide +kernel
theorem dX1_markGroup_70 : decode cX1_markGroup 70 = .ok (.getfield 9, 3) := by decide +kernel
theorem dX1_markGroup_73 : decode cX1_markGroup 73 = .ok (.iload 6, 2) := by decide +kernel
theorem dX1_markGroup_75 : decode cX1_markGroup 75 = .ok (.iaload, 1) := by decide +kernel
theorem dX1_markGroup_76 : decode cX1_markGroup 76 = .ok (.ifCond .lt 40, 3) := by decide +kernel
theorem dX1_markGroup_79 : decode cX1_markGroup 79 = .ok (.aload_n 0, 1) := by decide +kernel
theorem dX1_markGroup_80 : decode cX1_markGroup 80 = .ok (.getfield 45, 3) := by decide +kernel
theorem dX1_markGroup_83 : decode cX1_markGroup 83 = .ok (.iload 6, 2) := by decide +kernel
theorem dX1_markGroup_85 : decode cX1_markGroup 85 = .ok (.iaload, 1) := by decide +kernel
theorem dX1_markGroup_86 : decode cX1_markGroup 86 = .ok (.ifCond .ne 30, 3) := by decide +kernel
theorem dX1_markGroup_89 : decode cX1_markGroup 89 = .ok (.iload_n 3, 1) := by decide +kernel
theorem dX1_markGroup_90 : decode cX1_markGroup 90 = .ok (.aload_n 0, 1) := by decide +kernel
theorem dX1_markGroup_91 : decode cX1_markGroup 91 = .ok (.getfield 65, 3) := by decide +kernel
theorem dX1_markGroup_94 : decode cX1_markGroup 94 = .ok (.if_icmp .ge 22, 3) := by decide +kernel
theorem dX1_markGroup_97 : decode cX1_markGroup 97 = .ok (.aload_n 0, 1) := by decide +kernel
theorem dX1_markGroup_98 : decode cX1_markGroup 98 = .ok (.getfield 45, 3) := by decide +kernel
theorem dX1_markGroup_101 : decode cX1_markGroup 101 = .ok (.iload 6, 2) := by decide +kernel
theorem dX1_markGroup_103 : decode cX1_markGroup 103 = .ok (.iload_n 2, 1) := by decide +kernel
theorem dX1_markGroup_104 : decode cX1_markGroup 104 = .ok (.iastore, 1) := by decide +kernel
theorem dX1_markGroup_105 : decode cX1_markGroup 105 = .ok (.aload_n 0, 1) := by decide +kernel
theorem dX1_markGroup_106 : decode cX1_markGroup 106 = .ok (.getfield 42, 3) := by decide +kernel
theorem dX1_markGroup_109 : decode cX1_markGroup 109 = .ok (.iload_n 3, 1) := by decide +kernel
theorem dX1_markGroup_110 : decode cX1_markGroup 110 = .ok (.iload 6, 2) := by decide +kernel
theorem dX1_markGroup_112 : decode cX1_markGroup 112 = .ok (.iastore, 1) := by decide +kernel
theorem dX1_markGroup_113 : decode cX1_markGroup 113 = .ok (.iinc 3 1, 3) := by decide +kernel
theorem dX1_markGroup_116 : decode cX1_markGroup 116 = .ok (.iinc 5 1, 3) := by decide +kernel
theorem dX1_markGroup_119 : decode cX1_markGroup 119 = .ok (.goto (-82), 3) := by decide +kernel
theorem dX1_markGroup_122 : decode cX1_markGroup 122 = .ok (.iinc 4 1, 3) := by decide +kernel
theorem dX1_markGroup_125 : decode cX1_markGroup 125 = .ok (.goto (-106), 3) := by decide +kernel
theorem dX1_markGroup_128 : decode cX1_markGroup 128 = .ok (.return_, 1) := by decide +kernel
theorem dX1_keep_0 : decode cX1_keep 0 = .ok (.aload_n 0, 1) := by decide +kernel
theorem dX1_keep_1 : decode cX1_keep 1 = .ok (.getfield 15, 3) := by decide +kernel
theorem dX1_keep_4 : decode cX1_keep 4 = .ok (.iconst 0, 1) := by decide +kernel
theorem dX1_keep_5 : decode cX1_keep 5 = .ok (.aload_n 0, 1) := by decide +kernel
theorem dX1_keep_6 : decode cX1_keep 6 = .ok (.getfield 36, 3) := by decide +kernel
theorem dX1_keep_9 : decode cX1_keep 9 = .ok (.iconst 0, 1) := by decide +kernel
theorem dX1_keep_10 : decode cX1_keep 10 = .ok (.bipush 16, 2) := by decide +kernel
theorem dX1_keep_12 : decode cX1_keep 12 = .ok (.invokestatic 142, 3) := by decide +kernel
theorem dX1_keep_15 : decode cX1_keep 15 = .ok (.aload_n 0, 1) := by decide +kernel
theorem dX1_keep_16 : decode cX1_keep 16 = .ok (.getfield 18, 3) := by decide +kernel
theorem dX1_keep_19 : decode cX1_keep 19 = .ok (.iconst 0, 1) := by decide +kernel
theorem dX1_keep_20 : decode cX1_keep 20 = .ok (.aload_n 0, 1) := by decide +kernel
theorem dX1_keep_21 : decode cX1_keep 21 = .ok (.getfield 39, 3) := by decide +kernel
theorem dX1_keep_24 : decode cX1_keep 24 = .ok (.iconst 0, 1) := by decide +kernel
theorem dX1_keep_25 : decode cX1_keep 25 = .ok (.bipush 16, 2) := by decide +kernel
theorem dX1_keep_27 : decode cX1_keep 27 = .ok (.invokestatic 142, 3) := by decide +kernel
theorem dX1_keep_30 : decode cX1_keep 30 = .ok (.return_, 1) := by decide +kernel
theorem dX1_bringBack_0 : decode cX1_bringBack 0 = .ok (.iconst 0, 1) := by decide +kernel
theorem dX1_bringBack_1 : decode cX1_bringBack 1 = .ok (.istore_n 1, 1) := by decide +kernel
theorem dX1_bringBack_2 : decode cX1_bringBack 2 = .ok (.iload_n 1, 1) := by decide +kernel
theorem dX1_bringBack_3 : decode cX1_bringBack 3 = .ok (.aload_n 0, 1) := by decide +kernel
theorem dX1_bringBack_4 : decode cX1_bringBack 4 = .ok (.getfield 72, 3) := by decide +kernel
theorem dX1_bringBack_7 : decode cX1_bringBack 7 = .ok (.if_icmp .ge 14, 3) := by decide +kernel
theorem dX1_bringBack_10 : decode cX1_bringBack 10 = .ok (.aload_n 0, 1) := by decide +kernel
theorem dX1_bringBack_11 : decode cX1_bringBack 11 = .ok (.iload_n 1, 1) := by decide +kernel
theorem dX1_bringBack_12 : decode cX1_bringBack 12 = .ok (.invokevirtual 148, 3) := by decide +kernel
theorem dX1_bringBack_15 : decode cX1_bringBack 15 = .ok (.iinc 1 1, 3) := by decide +kernel
theorem dX1_bringBack_18 : decode cX1_bringBack 18 = .ok (.goto (-16), 3) := by decide +kernel
theorem dX1_bringBack_21 : decode cX1_bringBack 21 = .ok (.iconst 0, 1) := by decide +kernel
theorem dX1_bringBack_22 : decode cX1_bringBack 22 = .ok (.istore_n 1, 1) := by decide +kernel
theorem dX1_bringBack_23 : decode cX1_bringBack 23 = .ok (.iload_n 1, 1) := by decide +kernel
theorem dX1_bringBack_24 : decode cX1_bringBack 24 = .ok (.aload_n 0, 1) := by decide +kernel
theorem dX1_bringBack_25 : decode cX1_bringBack 25 = .ok (.getfield 72, 3) := by decide +kernel
theorem dX1_bringBack_28 : decode cX1_bringBack 28 = .ok (.if_icmp .ge 35, 3) := by decide +kernel
theorem dX1_bringBack_31 : decode cX1_bringBack 31 = .ok (.aload_n 0, 1) := by decide +kernel
theorem dX1_bringBack_32 : decode cX1_bringBack 32 = .ok (.getfield 36, 3) := by decide +kernel
theorem dX1_bringBack_35 : decode cX1_bringBack 35 = .ok (.iload_n 1, 1) := by decide +kernel
theorem dX1_bringBack_36 : decode cX1_bringBack 36 = .ok (.iaload, 1) := by decide +kernel
theorem dX1_bringBack_37 : decode cX1_bringBack 37 = .ok (.ifCond .lt 20, 3) := by decide +kernel
theorem dX1_bringBack_40 : decode cX1_bringBack 40 = .ok (.aload_n 0, 1) := by decide +kernel
theorem dX1_bringBack_41 : decode cX1_bringBack 41 = .ok (.iload_n 1, 1) := by decide +kernel
theorem dX1_bringBack_42 : decode cX1_bringBack 42 = .ok (.aload_n 0, 1) := by decide +kernel
theorem dX1_bringBack_43 : decode cX1_bringBack 43 = .ok (.getfield 36, 3) := by decide +kernel
theorem dX1_bringBack_46 : decode cX1_bringBack 46 = .ok (.iload_n 1, 1) := by decide +kernel
theorem dX1_bringBack_47 : decode cX1_bringBack 47 = .ok (.iaload, 1) := by decide +kernel
theorem dX1_bringBack_48 : decode cX1_bringBack 48 = .ok (.aload_n 0, 1) := by decide +kernel
theorem dX1_bringBack_49 : decode cX1_bringBack 49 = .ok (.getfield 39, 3) := by decide +kernel
theorem dX1_bringBack_52 : decode cX1_bringBack 52 = .ok (.iload_n 1, 1) := by decide +kernel
theorem dX1_bringBack_53 : decode cX1_bringBack 53 = .ok (.iaload, 1) := by decide +kernel
theorem dX1_bringBack_54 : decode cX1_bringBack 54 = .ok (.invokevirtual 151, 3) := by decide +kernel
theorem dX1_bringBack_57 : decode cX1_bringBack 57 = .ok (.iinc 1 1, 3) := by decide +kernel
theorem dX1_bringBack_60 : decode cX1_bringBack 60 = .ok (.goto (-37), 3) := by decide +kernel
theorem dX1_bringBack_63 : decode cX1_bringBack 63 = .ok (.return_, 1) := by decide +kernel
theorem dX2_init_0 : decode cX2_init 0 = .ok (.aload_n 0, 1) := by decide +kernel
theorem dX2_init_1 : decode cX2_init 1 = .ok (.invokespecial 3, 3) := by decide +kernel
theorem dX2_init_4 : decode cX2_init 4 = .ok (.aload_n 0, 1) := by decide +kernel
theorem dX2_init_5 : decode cX2_init 5 = .ok (.new 9, 3) := by decide +kernel
theorem dX2_init_8 : decode cX2_init 8 = .ok (.dup, 1) := by decide +kernel
theorem dX2_init_9 : decode cX2_init 9 = .ok (.invokespecial 11, 3) := by decide +kernel
theorem dX2_init_12 : decode cX2_init 12 = .ok (.putfield 12, 3) := by decide +kernel
theorem dX2_init_15 : decode cX2_init 15 = .ok (.aload_n 0, 1) := by decide +kernel
theorem dX2_init_16 : decode cX2_init 16 = .ok (.sipush 400, 3) := by decide +kernel
theorem dX2_init_19 : decode cX2_init 19 = .ok (.newarray .int, 2) := by decide +kernel
theorem dX2_init_21 : decode cX2_init 21 = .ok (.putfield 18, 3) := by decide +kernel
theorem dX2_init_24 : decode cX2_init 24 = .ok (.aload_n 0, 1) := by decide +kernel
theorem dX2_init_25 : decode cX2_init 25 = .ok (.aload_n 1, 1) := by decide +kernel
theorem dX2_init_26 : decode cX2_init 26 = .ok (.putfield 22, 3) := by decide +kernel
theorem dX2_init_29 : decode cX2_init 29 = .ok (.aload_n 1, 1) := by decide +kernel
theorem dX2_init_30 : decode cX2_init 30 = .ok (.aload_n 0, 1) := by decide +kernel
theorem dX2_init_31 : decode cX2_init 31 = .ok (.getfield 12, 3) := by decide +kernel
theorem dX2_init_34 : decode cX2_init 34 = .ok (.invokevirtual 26, 3) := by decide +kernel
theorem dX2_init_37 : decode cX2_init 37 = .ok (.return_, 1) := by decide +kernel
theorem dX2_begin_0 : decode cX2_begin 0 = .ok (.aload_n 0, 1) := by decide +kernel
theorem dX2_begin_1 : decode cX2_begin 1 = .ok (.getfield 12, 3) := by decide +kernel
theorem dX2_begin_4 : decode cX2_begin 4 = .ok (.aload_n 1, 1) := by decide +kernel
theorem dX2_begin_5 : decode cX2_begin 5 = .ok (.invokevirtual 32, 3) := by decide +kernel
theorem dX2_begin_8 : decode cX2_begin 8 = .ok (.aload_n 0, 1) := by decide +kernel
theorem dX2_begin_9 : decode cX2_begin 9 = .ok (.getfield 22, 3) := by decide +kernel
theorem dX2_begin_12 : decode cX2_begin 12 = .ok (.aload_n 0, 1) := by decide +kernel
theorem dX2_begin_13 : decode cX2_begin 13 = .ok (.getfield 12, 3) := by decide +kernel
theorem dX2_begin_16 : decode cX2_begin 16 = .ok (.invokevirtual 26, 3) := by decide +kernel
theorem dX2_begin_19 : decode cX2_begin 19 = .ok (.aload_n 0, 1) := by decide +kernel
theorem dX2_begin_20 : decode cX2_begin 20 = .ok (.iconst 0, 1) := by decide +kernel
theorem dX2_begin_21 : decode cX2_begin 21 = .ok (.putfield 35, 3) := by decide +kernel
theorem dX2_begin_24 : decode cX2_begin 24 = .ok (.return_, 1) := by decide +kernel
theorem dX2_playRound_0 : decode cX2_playRound 0 = .ok (.iconst 0, 1) := by decide +kernel
theorem dX2_playRound_1 : decode cX2_playRound 1 = .ok (.istore_n 1, 1) := by decide +kernel
theorem dX2_playRound_2 : decode cX2_playRound 2 = .ok (.iconst 0, 1) := by decide +kernel
theorem dX2_playRound_3 : decode cX2_playRound 3 = .ok (.istore_n 2, 1) := by decide +kernel
theorem dX2_playRound_4 : decode cX2_playRound 4 = .ok (.iload_n 2, 1) := by decide +kernel
theorem dX2_playRound_5 : decode cX2_playRound 5 = .ok (.aload_n 0, 1) := by decide +kernel
theorem dX2_playRound_6 : decode cX2_playRound 6 = .ok (.getfield 12, 3) := by decide +kernel
theorem dX2_playRound_9 : decode cX2_playRound 9 = .ok (.getfield 39, 3) := by decide +kernel
theorem dX2_playRound_12 : decode cX2_playRound 12 = .ok (.if_icmp .ge 28, 3) := by decide +kernel
theorem dX2_playRound_15 : decode cX2_playRound 15 = .ok (.aload_n 0, 1) := by decide +kernel
theorem dX2_playRound_16 : decode cX2_playRound 16 = .ok (.aload_n 0, 1) := by decide +kernel
theorem dX2_playRound_17 : decode cX2_playRound 17 = .ok (.getfield 12, 3) := by decide +kernel
theorem dX2_playRound_20 : decode cX2_playRound 20 = .ok (.getfield 42, 3) := by decide +kernel
theorem dX2_playRound_23 : decode cX2_playRound 23 = .ok (.iload_n 2, 1) := by decide +kernel
theorem dX2_playRound_24 : decode cX2_playRound 24 = .ok (.aaload, 1) := by decide +kernel
theorem dX2_playRound_25 : decode cX2_playRound 25 = .ok (.invokevirtual 46, 3) := by decide +kernel
theorem dX2_playRound_28 : decode cX2_playRound 28 = .ok (.ifCond .eq 6, 3) := by decide +kernel
theorem dX2_playRound_31 : decode cX2_playRound 31 = .ok (.iinc 1 1, 3) := by decide +kernel
theorem dX2_playRound_34 : decode cX2_playRound 34 = .ok (.iinc 2 1, 3) := by decide +kernel
theorem dX2_playRound_37 : decode cX2_playRound 37 = .ok (.goto (-33), 3) := by decide +kernel
theorem dX2_playRound_40 : decode cX2_playRound 40 = .ok (.aload_n 0, 1) := by decide +kernel
theorem dX2_playRound_41 : decode cX2_playRound 41 = .ok (.dup, 1) := by decide +kernel
theorem dX2_playRound_42 : decode cX2_playRound 42 = .ok (.getfield 35, 3) := by decide +kernel
theorem dX2_playRound_45 : decode cX2_playRound 45 = .ok (.iconst 1, 1) := by decide +kernel
theorem dX2_playRound_46 : decode cX2_playRound 46 = .ok (.iadd, 1) := by decide +kernel
theorem dX2_playRound_47 : decode cX2_playRound 47 = .ok (.putfield 35, 3) := by decide +kernel
theorem dX2_playRound_50 : decode cX2_playRound 50 = .ok (.iload_n 1, 1) := by decide +kernel
theorem dX2_playRound_51 : decode cX2_playRound 51 = .ok (.ireturn, 1) := by decide +kernel
theorem dX2_keep_0 : decode cX2_keep 0 = .ok (.aload_n 0, 1) := by decide +kernel
theorem dX2_keep_1 : decode cX2_keep 1 = .ok (.aload_n 0, 1) := by decide +kernel
theorem dX2_keep_2 : decode cX2_keep 2 = .ok (.getfield 35, 3) := by decide +kernel
theorem dX2_keep_5 : decode cX2_keep 5 = .ok (.putfield 50, 3) := by decide +kernel
theorem dX2_keep_8 : decode cX2_keep 8 = .ok (.aload_n 0, 1) := by decide +kernel
theorem dX2_keep_9 : decode cX2_keep 9 = .ok (.getfield 22, 3) := by decide +kernel
theorem dX2_keep_12 : decode cX2_keep 12 = .ok (.invokevirtual 53, 3) := by decide +kernel
theorem dX2_keep_15 : decode cX2_keep 15 = .ok (.return_, 1) := by decide +kernel
theorem dX2_bringBack_0 : decode cX2_bringBack 0 = .ok (.aload_n 0, 1) := by decide +kernel
theorem dX2_bringBack_1 : decode cX2_bringBack 1 = .ok (.aload_n 0, 1) := by decide +kernel
theorem dX2_bringBack_2 : decode cX2_bringBack 2 = .ok (.getfield 50, 3) := by decide +kernel
theorem dX2_bringBack_5 : decode cX2_bringBack 5 = .ok (.putfield 35, 3) := by decide +kernel
theorem dX2_bringBack_8 : decode cX2_bringBack 8 = .ok (.aload_n 0, 1) := by decide +kernel
theorem dX2_bringBack_9 : decode cX2_bringBack 9 = .ok (.getfield 22, 3) := by decide +kernel
theorem dX2_bringBack_12 : decode cX2_bringBack 12 = .ok (.invokevirtual 56, 3) := by decide +kernel
theorem dX2_bringBack_15 : decode cX2_bringBack 15 = .ok (.return_, 1) := by decide +kernel
theorem dX2_carriesOut_0 : decode cX2_carriesOut 0 = .ok (.aload_n 0, 1) := by decide +kernel
theorem dX2_carriesOut_1 : decode cX2_carriesOut 1 = .ok (.getfield 22, 3) := by decide +kernel
theorem dX2_carriesOut_4 : decode cX2_carriesOut 4 = .ok (.aload_n 1, 1) := by decide +kernel
theorem dX2_carriesOut_5 : decode cX2_carriesOut 5 = .ok (.getfield 59, 3) := by decide +kernel
theorem dX2_carriesOut_8 : decode cX2_carriesOut 8 = .ok (.invokevirtual 64, 3) := by decide +kernel
theorem dX2_carriesOut_11 : decode cX2_carriesOut 11 = .ok (.ifCond .ne 5, 3) := by decide +kernel
theorem dX2_carriesOut_14 : decode cX2_carriesOut 14 = .ok (.iconst 0, 1) := by decide +kernel
theorem dX2_carriesOut_15 : decode cX2_carriesOut 15 = .ok (.ireturn, 1) := by decide +kernel
theorem dX2_carriesOut_16 : decode cX2_carriesOut 16 = .ok (.aload_n 1, 1) := by decide +kernel
theorem dX2_carriesOut_17 : decode cX2_carriesOut 17 = .ok (.getfield 68, 3) := by decide +kernel
theorem dX2_carriesOut_20 : decode cX2_carriesOut 20 = .ok (.aload_n 1, 1) := by decide +kernel
theorem dX2_carriesOut_21 : decode cX2_carriesOut 21 = .ok (.getfield 71, 3) := by decide +kernel
theorem dX2_carriesOut_24 : decode cX2_carriesOut 24 = .ok (.if_icmp .ge 24, 3) := by decide +kernel
theorem dX2_carriesOut_27 : decode cX2_carriesOut 27 = .ok (.aload_n 0, 1) := by decide +kernel
theorem dX2_carriesOut_28 : decode cX2_carriesOut 28 = .ok (.aload_n 1, 1) := by decide +kernel
theorem dX2_carriesOut_29 : decode cX2_carriesOut 29 = .ok (.getfield 68, 3) := by decide +kernel
theorem dX2_carriesOut_32 : decode cX2_carriesOut 32 = .ok (.aload_n 1, 1) := by decide +kernel
theorem dX2_carriesOut_33 : decode cX2_carriesOut 33 = .ok (.getfield 71, 3) := by decide +kernel
theorem dX2_carriesOut_36 : decode cX2_carriesOut 36 = .ok (.invokevirtual 74, 3) := by decide +kernel
theorem dX2_carriesOut_39 : decode cX2_carriesOut 39 = .ok (.aload_n 0, 1) := by decide +kernel
theorem dX2_carriesOut_40 : decode cX2_carriesOut 40 = .ok (.invokevirtual 78, 3) := by decide +kernel
theorem dX2_carriesOut_43 : decode cX2_carriesOut 43 = .ok (.ifCond .ne 5, 3) := by decide +kernel
theorem dX2_carriesOut_46 : decode cX2_carriesOut 46 = .ok (.iconst 0, 1) := by decide +kernel
theorem dX2_carriesOut_47 : decode cX2_carriesOut 47 = .ok (.ireturn, 1) := by decide +kernel
theorem dX2_carriesOut_48 : decode cX2_carriesOut 48 = .ok (.getstatic 82, 3) := by decide +kernel
theorem dX2_carriesOut_51 : decode cX2_carriesOut 51 = .ok (.aload_n 1, 1) := by decide +kernel
theorem dX2_carriesOut_52 : decode cX2_carriesOut 52 = .ok (.getfield 87, 3) := by decide +kernel
theorem dX2_carriesOut_55 : decode cX2_carriesOut 55 = .ok (.invokevirtual 91, 3) := by decide +kernel
theorem dX2_carriesOut_58 : decode cX2_carriesOut 58 = .ok (.iaload, 1) := by decide +kernel
theorem dX2_carriesOut_59 : decode cX2_carriesOut 59 = .ok (.tableswitch 49 19 21 #[25, 31, 40], 25) := by decide +kernel
theorem dX2_carriesOut_84 : decode cX2_carriesOut 84 = .ok (.aload_n 0, 1) := by decide +kernel
theorem dX2_carriesOut_85 : decode cX2_carriesOut 85 = .ok (.aload_n 1, 1) := by decide +kernel
theorem dX2_carriesOut_86 : decode cX2_carriesOut 86 = .ok (.invokevirtual 96, 3) := by decide +kernel
theorem dX2_carriesOut_89 : decode cX2_carriesOut 89 = .ok (.ireturn, 1) := by decide +kernel
theorem dX2_carriesOut_90 : decode cX2_carriesOut 90 = .ok (.aload_n 0, 1) := by decide +kernel
theorem dX2_carriesOut_91 : decode cX2_carriesOut 91 = .ok (.aload_n 1, 1) := by decide +kernel
theorem dX2_carriesOut_92 : decode cX2_carriesOut 92 = .ok (.getfield 59, 3) := by decide +kernel
theorem dX2_carriesOut_95 : decode cX2_carriesOut 95 = .ok (.invokevirtual 99, 3) := by decide +kernel
theorem dX2_carriesOut_98 : decode cX2_carriesOut 98 = .ok (.ireturn, 1) := by decide +kernel
theorem dX2_carriesOut_99 : decode cX2_carriesOut 99 = .ok (.aload_n 0, 1) := by decide +kernel
theorem dX2_carriesOut_100 : decode cX2_carriesOut 100 = .ok (.aload_n 1, 1) := by decide +kernel
theorem dX2_carriesOut_101 : decode cX2_carriesOut 101 = .ok (.getfield 59, 3) := by decide +kernel
theorem dX2_carriesOut_104 : decode cX2_carriesOut 104 = .ok (.invokevirtual 102, 3) := by decide +kernel
theorem dX2_carriesOut_107 : decode cX2_carriesOut 107 = .ok (.ireturn, 1) := by decide +kernel
theorem dX2_carriesOut_108 : decode cX2_carriesOut 108 = .ok (.iconst 0, 1) := by decide +kernel
theorem dX2_carriesOut_109 : decode cX2_carriesOut 109 = .ok (.ireturn, 1) := by decide +kernel
theorem dX2_puts_0 : decode cX2_puts 0 = .ok (.aload_n 0, 1) := by decide +kernel
theorem dX2_puts_1 : decode cX2_puts 1 = .ok (.aload_n 1, 1) := by decide +kernel
theorem dX2_puts_2 : decode cX2_puts 2 = .ok (.getfield 105, 3) := by decide +kernel
theorem dX2_puts_5 : decode cX2_puts 5 = .ok (.aload_n 1, 1) := by decide +kernel
theorem dX2_puts_6 : decode cX2_puts 6 = .ok (.getfield 68, 3) := by decide +kernel
theorem dX2_puts_9 : decode cX2_puts 9 = .ok (.invokevirtual 74, 3) := by decide +kernel
theorem dX2_puts_12 : decode cX2_puts 12 = .ok (.aload_n 0, 1) := by decide +kernel
theorem dX2_puts_13 : decode cX2_puts 13 = .ok (.invokevirtual 78, 3) := by decide +kernel
theorem dX2_puts_16 : decode cX2_puts 16 = .ok (.bipush 6, 2) := by decide +kernel
theorem dX2_puts_18 : decode cX2_puts 18 = .ok (.invokestatic 108, 3) := by decide +kernel
theorem dX2_puts_21 : decode cX2_puts 21 = .ok (.istore_n 2, 1) := by decide +kernel
theorem dX2_puts_22 : decode cX2_puts 22 = .ok (.aload_n 0, 1) := by decide +kernel
theorem dX2_puts_23 : decode cX2_puts 23 = .ok (.invokevirtual 78, 3) := by decide +kernel
theorem dX2_puts_26 : decode cX2_puts 26 = .ok (.aload_n 0, 1) := by decide +kernel
theorem dX2_puts_27 : decode cX2_puts 27 = .ok (.getfield 22, 3) := by decide +kernel
theorem dX2_puts_30 : decode cX2_puts 30 = .ok (.getfield 112, 3) := by decide +kernel
theorem dX2_puts_33 : decode cX2_puts 33 = .ok (.invokestatic 108, 3) := by decide +kernel
theorem dX2_puts_36 : decode cX2_puts 36 = .ok (.istore_n 3, 1) := by decide +kernel
theorem dX2_puts_37 : decode cX2_puts 37 = .ok (.aload_n 0, 1) := by decide +kernel
theorem dX2_puts_38 : decode cX2_puts 38 = .ok (.invokevirtual 78, 3) := by decide +kernel
theorem dX2_puts_41 : decode cX2_puts 41 = .ok (.aload_n 0, 1) := by decide +kernel
theorem dX2_puts_42 : decode cX2_puts 42 = .ok (.getfield 22, 3) := by decide +kernel
theorem dX2_puts_45 : decode cX2_puts 45 = .ok (.getfield 115, 3) := by decide +kernel
theorem dX2_puts_48 : decode cX2_puts 48 = .ok (.invokestatic 108, 3) := by decide +kernel
theorem dX2_puts_51 : decode cX2_puts 51 = .ok (.istore 4, 2) := by decide +kernel
theorem dX2_puts_53 : decode cX2_puts 53 = .ok (.iload_n 3, 1) := by decide +kernel
theorem dX2_puts_54 : decode cX2_puts 54 = .ok (.aload_n 0, 1) := by decide +kernel
theorem dX2_puts_55 : decode cX2_puts 55 = .ok (.getfield 22, 3) := by decide +kernel
theorem dX2_puts_58 : decode cX2_puts 58 = .ok (.getfield 115, 3) := by decide +kernel
theorem dX2_puts_61 : decode cX2_puts 61 = .ok (.imul, 1) := by decide +kernel
theorem dX2_puts_62 : decode cX2_puts 62 = .ok (.iload 4, 2) := by decide +kernel
theorem dX2_puts_64 : decode cX2_puts 64 = .ok (.iadd, 1) := by decide +kernel
theorem dX2_puts_65 : decode cX2_puts 65 = .ok (.istore 5, 2) := by decide +kernel
theorem dX2_puts_67 : decode cX2_puts 67 = .ok (.iload 5, 2) := by decide +kernel
theorem dX2_puts_69 : decode cX2_puts 69 = .ok (.aload_n 0, 1) := by decide +kernel
theorem dX2_puts_70 : decode cX2_puts 70 = .ok (.getfield 22, 3) := by decide +kernel
theorem dX2_puts_73 : decode cX2_puts 73 = .ok (.getfield 118, 3) := by decide +kernel
theorem dX2_puts_76 : decode cX2_puts 76 = .ok (.if_icmp .ge 20, 3) := by decide +kernel
theorem dX2_puts_79 : decode cX2_puts 79 = .ok (.aload_n 0, 1) := by decide +kernel
theorem dX2_puts_80 : decode cX2_puts 80 = .ok (.getfield 22, 3) := by decide +kernel
theorem dX2_puts_83 : decode cX2_puts 83 = .ok (.aload_n 1, 1) := by decide +kernel
theorem dX2_puts_84 : decode cX2_puts 84 = .ok (.getfield 59, 3) := by decide +kernel
theorem dX2_puts_87 : decode cX2_puts 87 = .ok (.iload 5, 2) := by decide +kernel
theorem dX2_puts_89 : decode cX2_puts 89 = .ok (.iload_n 2, 1) := by decide +kernel
theorem dX2_puts_90 : decode cX2_puts 90 = .ok (.invokevirtual 121, 3) := by decide +kernel
theorem dX2_puts_93 : decode cX2_puts 93 = .ok (.ifCond .ne 5, 3) := by decide +kernel
theorem dX2_puts_96 : decode cX2_puts 96 = .ok (.iconst 0, 1) := by decide +kernel
theorem dX2_puts_97 : decode cX2_puts 97 = .ok (.ireturn, 1) := by decide +kernel
theorem dX2_puts_98 : decode cX2_puts 98 = .ok (.aload_n 0, 1) := by decide +kernel
theorem dX2_puts_99 : decode cX2_puts 99 = .ok (.getfield 22, 3) := by decide +kernel
theorem dX2_puts_102 : decode cX2_puts 102 = .ok (.aload_n 1, 1) := by decide +kernel
theorem dX2_puts_103 : decode cX2_puts 103 = .ok (.getfield 59, 3) := by decide +kernel
theorem dX2_puts_106 : decode cX2_puts 106 = .ok (.iload 5, 2) := by decide +kernel
theorem dX2_puts_108 : decode cX2_puts 108 = .ok (.iload_n 2, 1) := by decide +kernel
theorem dX2_puts_109 : decode cX2_puts 109 = .ok (.invokevirtual 125, 3) := by decide +kernel
theorem dX2_puts_112 : decode cX2_puts 112 = .ok (.iconst 1, 1) := by decide +kernel
theorem dX2_puts_113 : decode cX2_puts 113 = .ok (.ireturn, 1) := by decide +kernel
theorem dX2_takes_0 : decode cX2_takes 0 = .ok (.aload_n 0, 1) := by decide +kernel
theorem dX2_takes_1 : decode cX2_takes 1 = .ok (.getfield 22, 3) := by decide +kernel
theorem dX2_takes_4 : decode cX2_takes 4 = .ok (.iload_n 1, 1) := by decide +kernel
theorem dX2_takes_5 : decode cX2_takes 5 = .ok (.invokevirtual 129, 3) := by decide +kernel
theorem dX2_takes_8 : decode cX2_takes 8 = .ok (.ifCond .ne 5, 3) := by decide +kernel
theorem dX2_takes_11 : decode cX2_takes 11 = .ok (.iconst 0, 1) := by decide +kernel
theorem dX2_takes_12 : decode cX2_takes 12 = .ok (.ireturn, 1) := by decide +kernel
theorem dX2_takes_13 : decode cX2_takes 13 = .ok (.aload_n 0, 1) := by decide +kernel
theorem dX2_takes_14 : decode cX2_takes 14 = .ok (.getfield 22, 3) := by decide +kernel
theorem dX2_takes_17 : decode cX2_takes 17 = .ok (.iload_n 1, 1) := by decide +kernel
theorem dX2_takes_18 : decode cX2_takes 18 = .ok (.invokevirtual 132, 3) := by decide +kernel
theorem dX2_takes_21 : decode cX2_takes 21 = .ok (.iconst 1, 1) := by decide +kernel
theorem dX2_takes_22 : decode cX2_takes 22 = .ok (.ireturn, 1) := by decide +kernel
theorem dX2_fitsIn_0 : decode cX2_fitsIn 0 = .ok (.aload_n 0, 1) := by decide +kernel
theorem dX2_fitsIn_1 : decode cX2_fitsIn 1 = .ok (.getfield 22, 3) := by decide +kernel
theorem dX2_fitsIn_4 : decode cX2_fitsIn 4 = .ok (.iload_n 1, 1) := by decide +kernel
theorem dX2_fitsIn_5 : decode cX2_fitsIn 5 = .ok (.invokevirtual 136, 3) := by decide +kernel
theorem dX2_fitsIn_8 : decode cX2_fitsIn 8 = .ok (.istore_n 2, 1) := by decide +kernel
theorem dX2_fitsIn_9 : decode cX2_fitsIn 9 = .ok (.iload_n 2, 1) := by decide +kernel
theorem dX2_fitsIn_10 : decode cX2_fitsIn 10 = .ok (.ifCond .ge 5, 3) := by decide +kernel
theorem dX2_fitsIn_13 : decode cX2_fitsIn 13 = .ok (.iconst 0, 1) := by decide +kernel
theorem dX2_fitsIn_14 : decode cX2_fitsIn 14 = .ok (.ireturn, 1) := by decide +kernel
theorem dX2_fitsIn_15 : decode cX2_fitsIn 15 = .ok (.aload_n 0, 1) := by decide +kernel
theorem dX2_fitsIn_16 : decode cX2_fitsIn 16 = .ok (.getfield 22, 3) := by decide +kernel
theorem dX2_fitsIn_19 : decode cX2_fitsIn 19 = .ok (.iload_n 1, 1) := by decide +kernel
theorem dX2_fitsIn_20 : decode cX2_fitsIn 20 = .ok (.iload_n 2, 1) := by decide +kernel
theorem dX2_fitsIn_21 : decode cX2_fitsIn 21 = .ok (.aload_n 0, 1) := by decide +kernel
theorem dX2_fitsIn_22 : decode cX2_fitsIn 22 = .ok (.getfield 22, 3) := by decide +kernel
theorem dX2_fitsIn_25 : decode cX2_fitsIn 25 = .ok (.iload_n 1, 1) := by decide +kernel
theorem dX2_fitsIn_26 : decode cX2_fitsIn 26 = .ok (.iload_n 2, 1) := by decide +kernel
theorem dX2_fitsIn_27 : decode cX2_fitsIn 27 = .ok (.invokevirtual 140, 3) := by decide +kernel
theorem dX2_fitsIn_30 : decode cX2_fitsIn 30 = .ok (.invokevirtual 125, 3) := by decide +kernel
theorem dX2_fitsIn_33 : decode cX2_fitsIn 33 = .ok (.iconst 1, 1) := by decide +kernel
theorem dX2_fitsIn_34 : decode cX2_fitsIn 34 = .ok (.ireturn, 1) := by decide +kernel
theorem dX2_reckon_0 : decode cX2_reckon 0 = .ok (.aload_n 0, 1) := by decide +kernel
theorem dX2_reckon_1 : decode cX2_reckon 1 = .ok (.iconst 0, 1) := by decide +kernel
theorem dX2_reckon_2 : decode cX2_reckon 2 = .ok (.putfield 143, 3) := by decide +kernel
theorem dX2_reckon_5 : decode cX2_reckon 5 = .ok (.iload_n 1, 1) := by decide +kernel
theorem dX2_reckon_6 : decode cX2_reckon 6 = .ok (.istore_n 3, 1) := by decide +kernel
theorem dX2_reckon_7 : decode cX2_reckon 7 = .ok (.iload_n 3, 1) := by decide +kernel
theorem dX2_reckon_8 : decode cX2_reckon 8 = .ok (.iload_n 2, 1) := by decide +kernel
theorem dX2_reckon_9 : decode cX2_reckon 9 = .ok (.if_icmp .ge 371, 3) := by decide +kernel
theorem dX2_reckon_12 : decode cX2_reckon 12 = .ok (.aload_n 0, 1) := by decide +kernel
theorem dX2_reckon_13 : decode cX2_reckon 13 = .ok (.getfield 12, 3) := by decide +kernel
theorem dX2_reckon_16 : decode cX2_reckon 16 = .ok (.iload_n 3, 1) := by decide +kernel
theorem dX2_reckon_17 : decode cX2_reckon 17 = .ok (.invokevirtual 146, 3) := by decide +kernel
theorem dX2_reckon_20 : decode cX2_reckon 20 = .ok (.astore 4, 2) := by decide +kernel
theorem dX2_reckon_22 : decode cX2_reckon 22 = .ok (.getstatic 82, 3) := by decide +kernel
theorem dX2_reckon_25 : decode cX2_reckon 25 = .ok (.aload 4, 2) := by decide +kernel
theorem dX2_reckon_27 : decode cX2_reckon 27 = .ok (.invokevirtual 91, 3) := by decide +kernel
theorem dX2_reckon_30 : decode cX2_reckon 30 = .ok (.iaload, 1) := by decide +kernel
theorem dX2_reckon_31 : decode cX2_reckon 31 = .ok (.tableswitch 322 1 23 #[303, 322, 231, 261, 105, 120, 131, 145, 159, 173, 187, 209, 322, 322, 322, 322, 322, 322, 322, 322, 322, 322, 291], 105) := by decide +kernel
theorem dX2_reckon_136 : decode cX2_reckon 136 = .ok (.aload_n 0, 1) := by decide +kernel
theorem dX2_reckon_137 : decode cX2_reckon 137 = .ok (.aload_n 0, 1) := by decide +kernel
theorem dX2_reckon_138 : decode cX2_reckon 138 = .ok (.getfield 12, 3) := by decide +kernel
theorem dX2_reckon_141 : decode cX2_reckon 141 = .ok (.iload_n 3, 1) := by decide +kernel
theorem dX2_reckon_142 : decode cX2_reckon 142 = .ok (.invokevirtual 150, 3) := by decide +kernel
theorem dX2_reckon_145 : decode cX2_reckon 145 = .ok (.invokevirtual 153, 3) := by decide +kernel
theorem dX2_reckon_148 : decode cX2_reckon 148 = .ok (.goto 226, 3) := by decide +kernel
theorem dX2_reckon_151 : decode cX2_reckon 151 = .ok (.aload_n 0, 1) := by decide +kernel
theorem dX2_reckon_152 : decode cX2_reckon 152 = .ok (.aload_n 0, 1) := by decide +kernel
theorem dX2_reckon_153 : decode cX2_reckon 153 = .ok (.getfield 35, 3) := by decide +kernel
theorem dX2_reckon_156 : decode cX2_reckon 156 = .ok (.invokevirtual 153, 3) := by decide +kernel
theorem dX2_reckon_159 : decode cX2_reckon 159 = .ok (.goto 215, 3) := by decide +kernel
theorem dX2_reckon_162 : decode cX2_reckon 162 = .ok (.aload_n 0, 1) := by decide +kernel
theorem dX2_reckon_163 : decode cX2_reckon 163 = .ok (.aload_n 0, 1) := by decide +kernel
theorem dX2_reckon_164 : decode cX2_reckon 164 = .ok (.getfield 22, 3) := by decide +kernel
theorem dX2_reckon_167 : decode cX2_reckon 167 = .ok (.getfield 156, 3) := by decide +kernel
theorem dX2_reckon_170 : decode cX2_reckon 170 = .ok (.invokevirtual 153, 3) := by decide +kernel
theorem dX2_reckon_173 : decode cX2_reckon 173 = .ok (.goto 201, 3) := by decide +kernel
theorem dX2_reckon_176 : decode cX2_reckon 176 = .ok (.aload_n 0, 1) := by decide +kernel
theorem dX2_reckon_177 : decode cX2_reckon 177 = .ok (.aload_n 0, 1) := by decide +kernel
theorem dX2_reckon_178 : decode cX2_reckon 178 = .ok (.getfield 22, 3) := by decide +kernel
theorem dX2_reckon_181 : decode cX2_reckon 181 = .ok (.invokevirtual 159, 3) := by decide +kernel
theorem dX2_reckon_184 : decode cX2_reckon 184 = .ok (.invokevirtual 153, 3) := by decide +kernel
theorem dX2_reckon_187 : decode cX2_reckon 187 = .ok (.goto 187, 3) := by decide +kernel
theorem dX2_reckon_190 : decode cX2_reckon 190 = .ok (.aload_n 0, 1) := by decide +kernel
theorem dX2_reckon_191 : decode cX2_reckon 191 = .ok (.aload_n 0, 1) := by decide +kernel
theorem dX2_reckon_192 : decode cX2_reckon 192 = .ok (.getfield 22, 3) := by decide +kernel
theorem dX2_reckon_195 : decode cX2_reckon 195 = .ok (.invokevirtual 162, 3) := by decide +kernel
theorem dX2_reckon_198 : decode cX2_reckon 198 = .ok (.invokevirtual 153, 3) := by decide +kernel
theorem dX2_reckon_201 : decode cX2_reckon 201 = .ok (.goto 173, 3) := by decide +kernel
theorem dX2_reckon_204 : decode cX2_reckon 204 = .ok (.aload_n 0, 1) := by decide +kernel
theorem dX2_reckon_205 : decode cX2_reckon 205 = .ok (.aload_n 0, 1) := by decide +kernel
theorem dX2_reckon_206 : decode cX2_reckon 206 = .ok (.getfield 22, 3) := by decide +kernel
theorem dX2_reckon_209 : decode cX2_reckon 209 = .ok (.invokevirtual 165, 3) := by decide +kernel
theorem dX2_reckon_212 : decode cX2_reckon 212 = .ok (.invokevirtual 153, 3) := by decide +kernel
theorem dX2_reckon_215 : decode cX2_reckon 215 = .ok (.goto 159, 3) := by decide +kernel
theorem dX2_reckon_218 : decode cX2_reckon 218 = .ok (.aload_n 0, 1) := by decide +kernel
theorem dX2_reckon_219 : decode cX2_reckon 219 = .ok (.aload_n 0, 1) := by decide +kernel
theorem dX2_reckon_220 : decode cX2_reckon 220 = .ok (.getfield 22, 3) := by decide +kernel
theorem dX2_reckon_223 : decode cX2_reckon 223 = .ok (.getfield 118, 3) := by decide +kernel
theorem dX2_reckon_226 : decode cX2_reckon 226 = .ok (.aload_n 0, 1) := by decide +kernel
theorem dX2_reckon_227 : decode cX2_reckon 227 = .ok (.getfield 22, 3) := by decide +kernel
theorem dX2_reckon_230 : decode cX2_reckon 230 = .ok (.getfield 156, 3) := by decide +kernel
theorem dX2_reckon_233 : decode cX2_reckon 233 = .ok (.isub, 1) := by decide +kernel
theorem dX2_reckon_234 : decode cX2_reckon 234 = .ok (.invokevirtual 153, 3) := by decide +kernel
theorem dX2_reckon_237 : decode cX2_reckon 237 = .ok (.goto 137, 3) := by decide +kernel
theorem dX2_reckon_240 : decode cX2_reckon 240 = .ok (.aload_n 0, 1) := by decide +kernel
theorem dX2_reckon_241 : decode cX2_reckon 241 = .ok (.aload_n 0, 1) := by decide +kernel
theorem dX2_reckon_242 : decode cX2_reckon 242 = .ok (.getfield 22, 3) := by decide +kernel
theorem dX2_reckon_245 : decode cX2_reckon 245 = .ok (.aload_n 0, 1) := by decide +kernel
theorem dX2_reckon_246 : decode cX2_reckon 246 = .ok (.getfield 12, 3) := by decide +kernel
theorem dX2_reckon_249 : decode cX2_reckon 249 = .ok (.iload_n 3, 1) := by decide +kernel
theorem dX2_reckon_250 : decode cX2_reckon 250 = .ok (.invokevirtual 150, 3) := by decide +kernel
theorem dX2_reckon_253 : decode cX2_reckon 253 = .ok (.invokevirtual 168, 3) := by decide +kernel
theorem dX2_reckon_256 : decode cX2_reckon 256 = .ok (.invokevirtual 153, 3) := by decide +kernel
theorem dX2_reckon_259 : decode cX2_reckon 259 = .ok (.goto 115, 3) := by decide +kernel
theorem dX2_reckon_262 : decode cX2_reckon 262 = .ok (.aload_n 0, 1) := by decide +kernel
theorem dX2_reckon_263 : decode cX2_reckon 263 = .ok (.aload_n 0, 1) := by decide +kernel
theorem dX2_reckon_264 : decode cX2_reckon 264 = .ok (.getfield 22, 3) := by decide +kernel
theorem dX2_reckon_267 : decode cX2_reckon 267 = .ok (.aload_n 0, 1) := by decide +kernel
theorem dX2_reckon_268 : decode cX2_reckon 268 = .ok (.getfield 12, 3) := by decide +kernel
theorem dX2_reckon_271 : decode cX2_reckon 271 = .ok (.iload_n 3, 1) := by decide +kernel
theorem dX2_reckon_272 : decode cX2_reckon 272 = .ok (.invokevirtual 150, 3) := by decide +kernel
theorem dX2_reckon_275 : decode cX2_reckon 275 = .ok (.invokevirtual 129, 3) := by decide +kernel
theorem dX2_reckon_278 : decode cX2_reckon 278 = .ok (.ifCond .eq 7, 3) := by decide +kernel
theorem dX2_reckon_281 : decode cX2_reckon 281 = .ok (.iconst 1, 1) := by decide +kernel
theorem dX2_reckon_282 : decode cX2_reckon 282 = .ok (.goto 4, 3) := by decide +kernel
theorem dX2_reckon_285 : decode cX2_reckon 285 = .ok (.iconst 0, 1) := by decide +kernel
theorem dX2_reckon_286 : decode cX2_reckon 286 = .ok (.invokevirtual 153, 3) := by decide +kernel
theorem dX2_reckon_289 : decode cX2_reckon 289 = .ok (.goto 85, 3) := by decide +kernel
theorem dX2_reckon_292 : decode cX2_reckon 292 = .ok (.aload_n 0, 1) := by decide +kernel
theorem dX2_reckon_293 : decode cX2_reckon 293 = .ok (.aload_n 0, 1) := by decide +kernel
theorem dX2_reckon_294 : decode cX2_reckon 294 = .ok (.getfield 22, 3) := by decide +kernel
theorem dX2_reckon_297 : decode cX2_reckon 297 = .ok (.aload_n 0, 1) := by decide +kernel
theorem dX2_reckon_298 : decode cX2_reckon 298 = .ok (.getfield 12, 3) := by decide +kernel
theorem dX2_reckon_301 : decode cX2_reckon 301 = .ok (.iload_n 3, 1) := by decide +kernel
theorem dX2_reckon_302 : decode cX2_reckon 302 = .ok (.invokevirtual 150, 3) := by decide +kernel
theorem dX2_reckon_305 : decode cX2_reckon 305 = .ok (.invokevirtual 136, 3) := by decide +kernel
theorem dX2_reckon_308 : decode cX2_reckon 308 = .ok (.ifCond .lt 7, 3) := by decide +kernel
theorem dX2_reckon_311 : decode cX2_reckon 311 = .ok (.iconst 1, 1) := by decide +kernel
theorem dX2_reckon_312 : decode cX2_reckon 312 = .ok (.goto 4, 3) := by decide +kernel
theorem dX2_reckon_315 : decode cX2_reckon 315 = .ok (.iconst 0, 1) := by decide +kernel
theorem dX2_reckon_316 : decode cX2_reckon 316 = .ok (.invokevirtual 153, 3) := by decide +kernel
theorem dX2_reckon_319 : decode cX2_reckon 319 = .ok (.goto 55, 3) := by decide +kernel
theorem dX2_reckon_322 : decode cX2_reckon 322 = .ok (.aload_n 0, 1) := by decide +kernel
theorem dX2_reckon_323 : decode cX2_reckon 323 = .ok (.aload_n 0, 1) := by decide +kernel
theorem dX2_reckon_324 : decode cX2_reckon 324 = .ok (.invokevirtual 78, 3) := by decide +kernel
theorem dX2_reckon_327 : decode cX2_reckon 327 = .ok (.ineg, 1) := by decide +kernel
theorem dX2_reckon_328 : decode cX2_reckon 328 = .ok (.invokevirtual 153, 3) := by decide +kernel
theorem dX2_reckon_331 : decode cX2_reckon 331 = .ok (.goto 43, 3) := by decide +kernel
theorem dX2_reckon_334 : decode cX2_reckon 334 = .ok (.aload_n 0, 1) := by decide +kernel
theorem dX2_reckon_335 : decode cX2_reckon 335 = .ok (.aload_n 0, 1) := by decide +kernel
theorem dX2_reckon_336 : decode cX2_reckon 336 = .ok (.invokevirtual 78, 3) := by decide +kernel
theorem dX2_reckon_339 : decode cX2_reckon 339 = .ok (.ifCond .ne 7, 3) := by decide +kernel
theorem dX2_reckon_342 : decode cX2_reckon 342 = .ok (.iconst 1, 1) := by decide +kernel
theorem dX2_reckon_343 : decode cX2_reckon 343 = .ok (.goto 4, 3) := by decide +kernel
theorem dX2_reckon_346 : decode cX2_reckon 346 = .ok (.iconst 0, 1) := by decide +kernel
theorem dX2_reckon_347 : decode cX2_reckon 347 = .ok (.invokevirtual 153, 3) := by decide +kernel
theorem dX2_reckon_350 : decode cX2_reckon 350 = .ok (.goto 24, 3) := by decide +kernel
theorem dX2_reckon_353 : decode cX2_reckon 353 = .ok (.aload_n 0, 1) := by decide +kernel
theorem dX2_reckon_354 : decode cX2_reckon 354 = .ok (.invokevirtual 78, 3) := by decide +kernel
theorem dX2_reckon_357 : decode cX2_reckon 357 = .ok (.istore 5, 2) := by decide +kernel
theorem dX2_reckon_359 : decode cX2_reckon 359 = .ok (.aload_n 0, 1) := by decide +kernel
theorem dX2_reckon_360 : decode cX2_reckon 360 = .ok (.aload 4, 2) := by decide +kernel
theorem dX2_reckon_362 : decode cX2_reckon 362 = .ok (.aload_n 0, 1) := by decide +kernel
theorem dX2_reckon_363 : decode cX2_reckon 363 = .ok (.invokevirtual 78, 3) := by decide +kernel
theorem dX2_reckon_366 : decode cX2_reckon 366 = .ok (.iload 5, 2) := by decide +kernel
theorem dX2_reckon_368 : decode cX2_reckon 368 = .ok (.invokestatic 171, 3) := by decide +kernel
theorem dX2_reckon_371 : decode cX2_reckon 371 = .ok (.invokevirtual 153, 3) := by decide +kernel
theorem dX2_reckon_374 : decode cX2_reckon 374 = .ok (.iinc 3 1, 3) := by decide +kernel
theorem dX2_reckon_377 : decode cX2_reckon 377 = .ok (.goto (-370), 3) := by decide +kernel
theorem dX2_reckon_380 : decode cX2_reckon 380 = .ok (.return_, 1) := by decide +kernel
theorem dX2_combined_0 : decode cX2_combined 0 = .ok (.getstatic 82, 3) := by decide +kernel
theorem dX2_combined_3 : decode cX2_combined 3 = .ok (.aload_n 0, 1) := by decide +kernel
theorem dX2_combined_4 : decode cX2_combined 4 = .ok (.invokevirtual 91, 3) := by decide +kernel
theorem dX2_combined_7 : decode cX2_combined 7 = .ok (.iaload, 1) := by decide +kernel
theorem dX2_combined_8 : decode cX2_combined 8 = .ok (.tableswitch 108 13 26 #[76, 108, 96, 102, 108, 108, 108, 108, 108, 108, 108, 72, 80, 84], 72) := by decide +kernel
theorem dX2_combined_80 : decode cX2_combined 80 = .ok (.iload_n 1, 1) := by decide +kernel
theorem dX2_combined_81 : decode cX2_combined 81 = .ok (.iload_n 2, 1) := by decide +kernel
theorem dX2_combined_82 : decode cX2_combined 82 = .ok (.iadd, 1) := by decide +kernel
theorem dX2_combined_83 : decode cX2_combined 83 = .ok (.ireturn, 1) := by decide +kernel
theorem dX2_combined_84 : decode cX2_combined 84 = .ok (.iload_n 1, 1) := by decide +kernel
theorem dX2_combined_85 : decode cX2_combined 85 = .ok (.iload_n 2, 1) := by decide +kernel
theorem dX2_combined_86 : decode cX2_combined 86 = .ok (.isub, 1) := by decide +kernel
theorem dX2_combined_87 : decode cX2_combined 87 = .ok (.ireturn, 1) := by decide +kernel
theorem dX2_combined_88 : decode cX2_combined 88 = .ok (.iload_n 1, 1) := by decide +kernel
theorem dX2_combined_89 : decode cX2_combined 89 = .ok (.iload_n 2, 1) := by decide +kernel
theorem dX2_combined_90 : decode cX2_combined 90 = .ok (.imul, 1) := by decide +kernel
theorem dX2_combined_91 : decode cX2_combined 91 = .ok (.ireturn, 1) := by decide +kernel
theorem dX2_combined_92 : decode cX2_combined 92 = .ok (.iload_n 2, 1) := by decide +kernel
theorem dX2_combined_93 : decode cX2_combined 93 = .ok (.ifCond .ne 7, 3) := by decide +kernel
theorem dX2_combined_96 : decode cX2_combined 96 = .ok (.iconst 0, 1) := by decide +kernel
theorem dX2_combined_97 : decode cX2_combined 97 = .ok (.goto 6, 3) := by decide +kernel
theorem dX2_combined_100 : decode cX2_combined 100 = .ok (.iload_n 1, 1) := by decide +kernel
theorem dX2_combined_101 : decode cX2_combined 101 = .ok (.iload_n 2, 1) := by decide +kernel
theorem dX2_combined_102 : decode cX2_combined 102 = .ok (.idiv, 1) := by decide +kernel
theorem dX2_combined_103 : decode cX2_combined 103 = .ok (.ireturn, 1) := by decide +kernel
theorem dX2_combined_104 : decode cX2_combined 104 = .ok (.iload_n 1, 1) := by decide +kernel
theorem dX2_combined_105 : decode cX2_combined 105 = .ok (.iload_n 2, 1) := by decide +kernel
theorem dX2_combined_106 : decode cX2_combined 106 = .ok (.invokestatic 175, 3) := by decide +kernel
theorem dX2_combined_109 : decode cX2_combined 109 = .ok (.ireturn, 1) := by decide +kernel
theorem dX2_combined_110 : decode cX2_combined 110 = .ok (.iload_n 1, 1) := by decide +kernel
theorem dX2_combined_111 : decode cX2_combined 111 = .ok (.iload_n 2, 1) := by decide +kernel
theorem dX2_combined_112 : decode cX2_combined 112 = .ok (.invokestatic 180, 3) := by decide +kernel
theorem dX2_combined_115 : decode cX2_combined 115 = .ok (.ireturn, 1) := by decide +kernel
theorem dX2_combined_116 : decode cX2_combined 116 = .ok (.aload_n 0, 1) := by decide +kernel
theorem dX2_combined_117 : decode cX2_combined 117 = .ok (.iload_n 1, 1) := by decide +kernel
theorem dX2_combined_118 : decode cX2_combined 118 = .ok (.iload_n 2, 1) := by decide +kernel
theorem dX2_combined_119 : decode cX2_combined 119 = .ok (.invokestatic 183, 3) := by decide +kernel
theorem dX2_combined_122 : decode cX2_combined 122 = .ok (.ifCond .eq 7, 3) := by decide +kernel
theorem dX2_combined_125 : decode cX2_combined 125 = .ok (.iconst 1, 1) := by decide +kernel
theorem dX2_combined_126 : decode cX2_combined 126 = .ok (.goto 4, 3) := by decide +kernel
theorem dX2_combined_129 : decode cX2_combined 129 = .ok (.iconst 0, 1) := by decide +kernel
theorem dX2_combined_130 : decode cX2_combined 130 = .ok (.ireturn, 1) := by decide +kernel
theorem dX2_holdsBetween_0 : decode cX2_holdsBetween 0 = .ok (.getstatic 82, 3) := by decide +kernel
theorem dX2_holdsBetween_3 : decode cX2_holdsBetween 3 = .ok (.aload_n 0, 1) := by decide +kernel
theorem dX2_holdsBetween_4 : decode cX2_holdsBetween 4 = .ok (.invokevirtual 91, 3) := by decide +kernel
theorem dX2_holdsBetween_7 : decode cX2_holdsBetween 7 = .ok (.iaload, 1) := by decide +kernel
theorem dX2_holdsBetween_8 : decode cX2_holdsBetween 8 = .ok (.tableswitch 127 27 33 #[44, 55, 66, 77, 88, 99, 113], 44) := by decide +kernel
theorem dX2_holdsBetween_52 : decode cX2_holdsBetween 52 = .ok (.iload_n 1, 1) := by decide +kernel
theorem dX2_holdsBetween_53 : decode cX2_holdsBetween 53 = .ok (.iload_n 2, 1) := by decide +kernel
theorem dX2_holdsBetween_54 : decode cX2_holdsBetween 54 = .ok (.if_icmp .ge 7, 3) := by decide +kernel
theorem dX2_holdsBetween_57 : decode cX2_holdsBetween 57 = .ok (.iconst 1, 1) := by decide +kernel
theorem dX2_holdsBetween_58 : decode cX2_holdsBetween 58 = .ok (.goto 4, 3) := by decide +kernel
theorem dX2_holdsBetween_61 : decode cX2_holdsBetween 61 = .ok (.iconst 0, 1) := by decide +kernel
theorem dX2_holdsBetween_62 : decode cX2_holdsBetween 62 = .ok (.ireturn, 1) := by decide +kernel
theorem dX2_holdsBetween_63 : decode cX2_holdsBetween 63 = .ok (.iload_n 1, 1) := by decide +kernel
theorem dX2_holdsBetween_64 : decode cX2_holdsBetween 64 = .ok (.iload_n 2, 1) := by decide +kernel
theorem dX2_holdsBetween_65 : decode cX2_holdsBetween 65 = .ok (.if_icmp .le 7, 3) := by decide +kernel
theorem dX2_holdsBetween_68 : decode cX2_holdsBetween 68 = .ok (.iconst 1, 1) := by decide +kernel
theorem dX2_holdsBetween_69 : decode cX2_holdsBetween 69 = .ok (.goto 4, 3) := by decide +kernel
theorem dX2_holdsBetween_72 : decode cX2_holdsBetween 72 = .ok (.iconst 0, 1) := by decide +kernel
theorem dX2_holdsBetween_73 : decode cX2_holdsBetween 73 = .ok (.ireturn, 1) := by decide +kernel
theorem dX2_holdsBetween_74 : decode cX2_holdsBetween 74 = .ok (.iload_n 1, 1) := by decide +kernel
theorem dX2_holdsBetween_75 : decode cX2_holdsBetween 75 = .ok (.iload_n 2, 1) := by decide +kernel
theorem dX2_holdsBetween_76 : decode cX2_holdsBetween 76 = .ok (.if_icmp .ne 7, 3) := by decide +kernel
theorem dX2_holdsBetween_79 : decode cX2_holdsBetween 79 = .ok (.iconst 1, 1) := by decide +kernel
theorem dX2_holdsBetween_80 : decode cX2_holdsBetween 80 = .ok (.goto 4, 3) := by decide +kernel
theorem dX2_holdsBetween_83 : decode cX2_holdsBetween 83 = .ok (.iconst 0, 1) := by decide +kernel
theorem dX2_holdsBetween_84 : decode cX2_holdsBetween 84 = .ok (.ireturn, 1) := by decide +kernel
theorem dX2_holdsBetween_85 : decode cX2_holdsBetween 85 = .ok (.iload_n 1, 1) := by decide +kernel
theorem dX2_holdsBetween_86 : decode cX2_holdsBetween 86 = .ok (.iload_n 2, 1) := by decide +kernel
theorem dX2_holdsBetween_87 : decode cX2_holdsBetween 87 = .ok (.if_icmp .gt 7, 3) := by decide +kernel
theorem dX2_holdsBetween_90 : decode cX2_holdsBetween 90 = .ok (.iconst 1, 1) := by decide +kernel
theorem dX2_holdsBetween_91 : decode cX2_holdsBetween 91 = .ok (.goto 4, 3) := by decide +kernel
theorem dX2_holdsBetween_94 : decode cX2_holdsBetween 94 = .ok (.iconst 0, 1) := by decide +kernel
theorem dX2_holdsBetween_95 : decode cX2_holdsBetween 95 = .ok (.ireturn, 1) := by decide +kernel
theorem dX2_holdsBetween_96 : decode cX2_holdsBetween 96 = .ok (.iload_n 1, 1) := by decide +kernel
theorem dX2_holdsBetween_97 : decode cX2_holdsBetween 97 = .ok (.iload_n 2, 1) := by decide +kernel
theorem dX2_holdsBetween_98 : decode cX2_holdsBetween 98 = .ok (.if_icmp .lt 7, 3) := by decide +kernel
theorem dX2_holdsBetween_101 : decode cX2_holdsBetween 101 = .ok (.iconst 1, 1) := by decide +kernel
theorem dX2_holdsBetween_102 : decode cX2_holdsBetween 102 = .ok (.goto 4, 3) := by decide +kernel
theorem dX2_holdsBetween_105 : decode cX2_holdsBetween 105 = .ok (.iconst 0, 1) := by decide +kernel
theorem dX2_holdsBetween_106 : decode cX2_holdsBetween 106 = .ok (.ireturn, 1) := by decide +kernel
theorem dX2_holdsBetween_107 : decode cX2_holdsBetween 107 = .ok (.iload_n 1, 1) := by decide +kernel
theorem dX2_holdsBetween_108 : decode cX2_holdsBetween 108 = .ok (.ifCond .eq 11, 3) := by decide +kernel
theorem dX2_holdsBetween_111 : decode cX2_holdsBetween 111 = .ok (.iload_n 2, 1) := by decide +kernel
theorem dX2_holdsBetween_112 : decode cX2_holdsBetween 112 = .ok (.ifCond .eq 7, 3) := by decide +kernel
theorem dX2_holdsBetween_115 : decode cX2_holdsBetween 115 = .ok (.iconst 1, 1) := by decide +kernel
theorem dX2_holdsBetween_116 : decode cX2_holdsBetween 116 = .ok (.goto 4, 3) := by decide +kernel
theorem dX2_holdsBetween_119 : decode cX2_holdsBetween 119 = .ok (.iconst 0, 1) := by decide +kernel
theorem dX2_holdsBetween_120 : decode cX2_holdsBetween 120 = .ok (.ireturn, 1) := by decide +kernel
theorem dX2_holdsBetween_121 : decode cX2_holdsBetween 121 = .ok (.iload_n 1, 1) := by decide +kernel
theorem dX2_holdsBetween_122 : decode cX2_holdsBetween 122 = .ok (.ifCond .ne 7, 3) := by decide +kernel
theorem dX2_holdsBetween_125 : decode cX2_holdsBetween 125 = .ok (.iload_n 2, 1) := by decide +kernel
theorem dX2_holdsBetween_126 : decode cX2_holdsBetween 126 = .ok (.ifCond .eq 7, 3) := by decide +kernel
theorem dX2_holdsBetween_129 : decode cX2_holdsBetween 129 = .ok (.iconst 1, 1) := by decide +kernel
theorem dX2_holdsBetween_130 : decode cX2_holdsBetween 130 = .ok (.goto 4, 3) := by decide +kernel
theorem dX2_holdsBetween_133 : decode cX2_holdsBetween 133 = .ok (.iconst 0, 1) := by decide +kernel
theorem dX2_holdsBetween_134 : decode cX2_holdsBetween 134 = .ok (.ireturn, 1) := by decide +kernel
theorem dX2_holdsBetween_135 : decode cX2_holdsBetween 135 = .ok (.iconst 0, 1) := by decide +kernel
theorem dX2_holdsBetween_136 : decode cX2_holdsBetween 136 = .ok (.ireturn, 1) := by decide +kernel
theorem dX2_remainder_0 : decode cX2_remainder 0 = .ok (.iload_n 1, 1) := by decide +kernel
theorem dX2_remainder_1 : decode cX2_remainder 1 = .ok (.ifCond .le 11, 3) := by decide +kernel
theorem dX2_remainder_4 : decode cX2_remainder 4 = .ok (.iload_n 0, 1) := by decide +kernel
theorem dX2_remainder_5 : decode cX2_remainder 5 = .ok (.iload_n 1, 1) := by decide +kernel
theorem dX2_remainder_6 : decode cX2_remainder 6 = .ok (.invokestatic 187, 3) := by decide +kernel
theorem dX2_remainder_9 : decode cX2_remainder 9 = .ok (.goto 4, 3) := by decide +kernel
theorem dX2_remainder_12 : decode cX2_remainder 12 = .ok (.iconst 0, 1) := by decide +kernel
theorem dX2_remainder_13 : decode cX2_remainder 13 = .ok (.ireturn, 1) := by decide +kernel
theorem dX2_push_0 : decode cX2_push 0 = .ok (.aload_n 0, 1) := by decide +kernel
theorem dX2_push_1 : decode cX2_push 1 = .ok (.getfield 143, 3) := by decide +kernel
theorem dX2_push_4 : decode cX2_push 4 = .ok (.aload_n 0, 1) := by decide +kernel
theorem dX2_push_5 : decode cX2_push 5 = .ok (.getfield 18, 3) := by decide +kernel
theorem dX2_push_8 : decode cX2_push 8 = .ok (.arraylength, 1) := by decide +kernel
theorem dX2_push_9 : decode cX2_push 9 = .ok (.if_icmp .ge 23, 3) := by decide +kernel
theorem dX2_push_12 : decode cX2_push 12 = .ok (.aload_n 0, 1) := by decide +kernel
theorem dX2_push_13 : decode cX2_push 13 = .ok (.getfield 18, 3) := by decide +kernel
theorem dX2_push_16 : decode cX2_push 16 = .ok (.aload_n 0, 1) := by decide +kernel
theorem dX2_push_17 : decode cX2_push 17 = .ok (.getfield 143, 3) := by decide +kernel
theorem dX2_push_20 : decode cX2_push 20 = .ok (.iload_n 1, 1) := by decide +kernel
theorem dX2_push_21 : decode cX2_push 21 = .ok (.iastore, 1) := by decide +kernel
theorem dX2_push_22 : decode cX2_push 22 = .ok (.aload_n 0, 1) := by decide +kernel
theorem dX2_push_23 : decode cX2_push 23 = .ok (.dup, 1) := by decide +kernel
theorem dX2_push_24 : decode cX2_push 24 = .ok (.getfield 143, 3) := by decide +kernel
theorem dX2_push_27 : decode cX2_push 27 = .ok (.iconst 1, 1) := by decide +kernel
theorem dX2_push_28 : decode cX2_push 28 = .ok (.iadd, 1) := by decide +kernel
theorem dX2_push_29 : decode cX2_push 29 = .ok (.putfield 143, 3) := by decide +kernel
theorem dX2_push_32 : decode cX2_push 32 = .ok (.return_, 1) := by decide +kernel
theorem dX2_pop_0 : decode cX2_pop 0 = .ok (.aload_n 0, 1) := by decide +kernel
theorem dX2_pop_1 : decode cX2_pop 1 = .ok (.getfield 143, 3) := by decide +kernel
theorem dX2_pop_4 : decode cX2_pop 4 = .ok (.ifCond .gt 5, 3) := by decide +kernel
theorem dX2_pop_7 : decode cX2_pop 7 = .ok (.iconst 0, 1) := by decide +kernel
theorem dX2_pop_8 : decode cX2_pop 8 = .ok (.ireturn, 1) := by decide +kernel
theorem dX2_pop_9 : decode cX2_pop 9 = .ok (.aload_n 0, 1) := by decide +kernel
theorem dX2_pop_10 : decode cX2_pop 10 = .ok (.dup, 1) := by decide +kernel
theorem dX2_pop_11 : decode cX2_pop 11 = .ok (.getfield 143, 3) := by decide +kernel
theorem dX2_pop_14 : decode cX2_pop 14 = .ok (.iconst 1, 1) := by decide +kernel
theorem dX2_pop_15 : decode cX2_pop 15 = .ok (.isub, 1) := by decide +kernel
theorem dX2_pop_16 : decode cX2_pop 16 = .ok (.putfield 143, 3) := by decide +kernel
theorem dX2_pop_19 : decode cX2_pop 19 = .ok (.aload_n 0, 1) := by decide +kernel
theorem dX2_pop_20 : decode cX2_pop 20 = .ok (.getfield 18, 3) := by decide +kernel
theorem dX2_pop_23 : decode cX2_pop 23 = .ok (.aload_n 0, 1) := by decide +kernel
theorem dX2_pop_24 : decode cX2_pop 24 = .ok (.getfield 143, 3) := by decide +kernel
theorem dX2_pop_27 : decode cX2_pop 27 = .ok (.iaload, 1) := by decide +kernel
theorem dX2_pop_28 : decode cX2_pop 28 = .ok (.ireturn, 1) := by decide +kernel
theorem dX5_init_0 : decode cX5_init 0 = .ok (.aload_n 0, 1) := by decide +kernel
theorem dX5_init_1 : decode cX5_init 1 = .ok (.invokespecial 3, 3) := by decide +kernel
theorem dX5_init_4 : decode cX5_init 4 = .ok (.aload_n 0, 1) := by decide +kernel
theorem dX5_init_5 : decode cX5_init 5 = .ok (.bipush 16, 2) := by decide +kernel
theorem dX5_init_7 : decode cX5_init 7 = .ok (.newarray .int, 2) := by decide +kernel
theorem dX5_init_9 : decode cX5_init 9 = .ok (.putfield 9, 3) := by decide +kernel
theorem dX5_init_12 : decode cX5_init 12 = .ok (.aload_n 0, 1) := by decide +kernel
theorem dX5_init_13 : decode cX5_init 13 = .ok (.getstatic 15, 3) := by decide +kernel
theorem dX5_init_16 : decode cX5_init 16 = .ok (.putfield 21, 3) := by decide +kernel
theorem dX5_init_19 : decode cX5_init 19 = .ok (.aload_n 0, 1) := by decide +kernel
theorem dX5_init_20 : decode cX5_init 20 = .ok (.aload_n 1, 1) := by decide +kernel
theorem dX5_init_21 : decode cX5_init 21 = .ok (.putfield 24, 3) := by decide +kernel
theorem dX5_init_24 : decode cX5_init 24 = .ok (.aload_n 0, 1) := by decide +kernel
theorem dX5_init_25 : decode cX5_init 25 = .ok (.aload_n 2, 1) := by decide +kernel
theorem dX5_init_26 : decode cX5_init 26 = .ok (.putfield 28, 3) := by decide +kernel
theorem dX5_init_29 : decode cX5_init 29 = .ok (.return_, 1) := by decide +kernel
theorem dX5_firstError_0 : decode cX5_firstError 0 = .ok (.aload_n 0, 1) := by decide +kernel
theorem dX5_firstError_1 : decode cX5_firstError 1 = .ok (.iconst 0, 1) := by decide +kernel
theorem dX5_firstError_2 : decode cX5_firstError 2 = .ok (.putfield 32, 3) := by decide +kernel
theorem dX5_firstError_5 : decode cX5_firstError 5 = .ok (.aload_n 0, 1) := by decide +kernel
theorem dX5_firstError_6 : decode cX5_firstError 6 = .ok (.iconst 0, 1) := by decide +kernel
theorem dX5_firstError_7 : decode cX5_firstError 7 = .ok (.putfield 36, 3) := by decide +kernel
theorem dX5_firstError_10 : decode cX5_firstError 10 = .ok (.aload_n 0, 1) := by decide +kernel
theorem dX5_firstError_11 : decode cX5_firstError 11 = .ok (.getstatic 15, 3) := by decide +kernel
theorem dX5_firstError_14 : decode cX5_firstError 14 = .ok (.putfield 21, 3) := by decide +kernel
theorem dX5_firstError_17 : decode cX5_firstError 17 = .ok (.aload_n 0, 1) := by decide +kernel
theorem dX5_firstError_18 : decode cX5_firstError 18 = .ok (.iconst 0, 1) := by decide +kernel
theorem dX5_firstError_19 : decode cX5_firstError 19 = .ok (.putfield 39, 3) := by decide +kernel
theorem dX5_firstError_22 : decode cX5_firstError 22 = .ok (.aload_n 0, 1) := by decide +kernel
theorem dX5_firstError_23 : decode cX5_firstError 23 = .ok (.getfield 39, 3) := by decide +kernel
theorem dX5_firstError_26 : decode cX5_firstError 26 = .ok (.aload_n 0, 1) := by decide +kernel
theorem dX5_firstError_27 : decode cX5_firstError 27 = .ok (.getfield 24, 3) := by decide +kernel
theorem dX5_firstError_30 : decode cX5_firstError 30 = .ok (.getfield 42, 3) := by decide +kernel
theorem dX5_firstError_33 : decode cX5_firstError 33 = .ok (.if_icmp .ge 27, 3) := by decide +kernel
theorem dX5_firstError_36 : decode cX5_firstError 36 = .ok (.aload_n 0, 1) := by decide +kernel
theorem dX5_firstError_37 : decode cX5_firstError 37 = .ok (.invokevirtual 47, 3) := by decide +kernel
theorem dX5_firstError_40 : decode cX5_firstError 40 = .ok (.istore_n 1, 1) := by decide +kernel
theorem dX5_firstError_41 : decode cX5_firstError 41 = .ok (.iload_n 1, 1) := by decide +kernel
theorem dX5_firstError_42 : decode cX5_firstError 42 = .ok (.ifCond .eq 5, 3) := by decide +kernel
theorem dX5_firstError_45 : decode cX5_firstError 45 = .ok (.iload_n 1, 1) := by decide +kernel
theorem dX5_firstError_46 : decode cX5_firstError 46 = .ok (.ireturn, 1) := by decide +kernel
theorem dX5_firstError_47 : decode cX5_firstError 47 = .ok (.aload_n 0, 1) := by decide +kernel
theorem dX5_firstError_48 : decode cX5_firstError 48 = .ok (.dup, 1) := by decide +kernel
theorem dX5_firstError_49 : decode cX5_firstError 49 = .ok (.getfield 39, 3) := by decide +kernel
theorem dX5_firstError_52 : decode cX5_firstError 52 = .ok (.iconst 1, 1) := by decide +kernel
theorem dX5_firstError_53 : decode cX5_firstError 53 = .ok (.iadd, 1) := by decide +kernel
theorem dX5_firstError_54 : decode cX5_firstError 54 = .ok (.putfield 39, 3) := by decide +kernel
theorem dX5_firstError_57 : decode cX5_firstError 57 = .ok (.goto (-35), 3) := by decide +kernel
theorem dX5_firstError_60 : decode cX5_firstError 60 = .ok (.aload_n 0, 1) := by decide +kernel
theorem dX5_firstError_61 : decode cX5_firstError 61 = .ok (.getfield 28, 3) := by decide +kernel
theorem dX5_firstError_64 : decode cX5_firstError 64 = .ok (.aload_n 0, 1) := by decide +kernel
theorem dX5_firstError_65 : decode cX5_firstError 65 = .ok (.getfield 24, 3) := by decide +kernel
theorem dX5_firstError_68 : decode cX5_firstError 68 = .ok (.invokevirtual 51, 3) := by decide +kernel
theorem dX5_firstError_71 : decode cX5_firstError 71 = .ok (.iconst 0, 1) := by decide +kernel
theorem dX5_firstError_72 : decode cX5_firstError 72 = .ok (.ireturn, 1) := by decide +kernel
theorem dX5_errorAtToken_0 : decode cX5_errorAtToken 0 = .ok (.aload_n 0, 1) := by decide +kernel
theorem dX5_errorAtToken_1 : decode cX5_errorAtToken 1 = .ok (.getfield 24, 3) := by decide +kernel
theorem dX5_errorAtToken_4 : decode cX5_errorAtToken 4 = .ok (.aload_n 0, 1) := by decide +kernel
theorem dX5_errorAtToken_5 : decode cX5_errorAtToken 5 = .ok (.getfield 39, 3) := by decide +kernel
theorem dX5_errorAtToken_8 : decode cX5_errorAtToken 8 = .ok (.invokevirtual 57, 3) := by decide +kernel
theorem dX5_errorAtToken_11 : decode cX5_errorAtToken 11 = .ok (.astore_n 1, 1) := by decide +kernel
theorem dX5_errorAtToken_12 : decode cX5_errorAtToken 12 = .ok (.getstatic 61, 3) := by decide +kernel
theorem dX5_errorAtToken_15 : decode cX5_errorAtToken 15 = .ok (.aload_n 1, 1) := by decide +kernel
theorem dX5_errorAtToken_16 : decode cX5_errorAtToken 16 = .ok (.invokevirtual 66, 3) := by decide +kernel
theorem dX5_errorAtToken_19 : decode cX5_errorAtToken 19 = .ok (.iaload, 1) := by decide +kernel
theorem dX5_errorAtToken_20 : decode cX5_errorAtToken 20 = .ok (.tableswitch 150 5 22 #[134, 150, 150, 150, 150, 150, 150, 150, 150, 150, 150, 150, 88, 88, 95, 95, 95, 125], 88) := by decide +kernel
theorem dX5_errorAtToken_108 : decode cX5_errorAtToken 108 = .ok (.aload_n 0, 1) := by decide +kernel
theorem dX5_errorAtToken_109 : decode cX5_errorAtToken 109 = .ok (.aload_n 1, 1) := by decide +kernel
theorem dX5_errorAtToken_110 : decode cX5_errorAtToken 110 = .ok (.putfield 21, 3) := by decide +kernel
theorem dX5_errorAtToken_113 : decode cX5_errorAtToken 113 = .ok (.iconst 0, 1) := by decide +kernel
theorem dX5_errorAtToken_114 : decode cX5_errorAtToken 114 = .ok (.ireturn, 1) := by decide +kernel
theorem dX5_errorAtToken_115 : decode cX5_errorAtToken 115 = .ok (.aload_n 0, 1) := by decide +kernel
theorem dX5_errorAtToken_116 : decode cX5_errorAtToken 116 = .ok (.aload_n 1, 1) := by decide +kernel
theorem dX5_errorAtToken_117 : decode cX5_errorAtToken 117 = .ok (.putfield 21, 3) := by decide +kernel
theorem dX5_errorAtToken_120 : decode cX5_errorAtToken 120 = .ok (.aload_n 0, 1) := by decide +kernel
theorem dX5_errorAtToken_121 : decode cX5_errorAtToken 121 = .ok (.dup, 1) := by decide +kernel
theorem dX5_errorAtToken_122 : decode cX5_errorAtToken 122 = .ok (.getfield 36, 3) := by decide +kernel
theorem dX5_errorAtToken_125 : decode cX5_errorAtToken 125 = .ok (.iconst 1, 1) := by decide +kernel
theorem dX5_errorAtToken_126 : decode cX5_errorAtToken 126 = .ok (.iadd, 1) := by decide +kernel
theorem dX5_errorAtToken_127 : decode cX5_errorAtToken 127 = .ok (.putfield 36, 3) := by decide +kernel
theorem dX5_errorAtToken_130 : decode cX5_errorAtToken 130 = .ok (.aload_n 0, 1) := by decide +kernel
theorem dX5_errorAtToken_131 : decode cX5_errorAtToken 131 = .ok (.getfield 36, 3) := by decide +kernel
theorem dX5_errorAtToken_134 : decode cX5_errorAtToken 134 = .ok (.bipush 16, 2) := by decide +kernel
theorem dX5_errorAtToken_136 : decode cX5_errorAtToken 136 = .ok (.if_icmp .le 7, 3) := by decide +kernel
theorem dX5_errorAtToken_139 : decode cX5_errorAtToken 139 = .ok (.iconst 4, 1) := by decide +kernel
theorem dX5_errorAtToken_140 : decode cX5_errorAtToken 140 = .ok (.goto 4, 3) := by decide +kernel
theorem dX5_errorAtToken_143 : decode cX5_errorAtToken 143 = .ok (.iconst 0, 1) := by decide +kernel
theorem dX5_errorAtToken_144 : decode cX5_errorAtToken 144 = .ok (.ireturn, 1) := by decide +kernel
theorem dX5_errorAtToken_145 : decode cX5_errorAtToken 145 = .ok (.aload_n 0, 1) := by decide +kernel
theorem dX5_errorAtToken_146 : decode cX5_errorAtToken 146 = .ok (.aload_n 0, 1) := by decide +kernel
theorem dX5_errorAtToken_147 : decode cX5_errorAtToken 147 = .ok (.invokevirtual 69, 3) := by decide +kernel
theorem dX5_errorAtToken_150 : decode cX5_errorAtToken 150 = .ok (.invokevirtual 72, 3) := by decide +kernel
theorem dX5_errorAtToken_153 : decode cX5_errorAtToken 153 = .ok (.ireturn, 1) := by decide +kernel
theorem dX5_errorAtToken_154 : decode cX5_errorAtToken 154 = .ok (.aload_n 0, 1) := by decide +kernel
theorem dX5_errorAtToken_155 : decode cX5_errorAtToken 155 = .ok (.aload_n 0, 1) := by decide +kernel
theorem dX5_errorAtToken_156 : decode cX5_errorAtToken 156 = .ok (.getfield 24, 3) := by decide +kernel
theorem dX5_errorAtToken_159 : decode cX5_errorAtToken 159 = .ok (.aload_n 0, 1) := by decide +kernel
theorem dX5_errorAtToken_160 : decode cX5_errorAtToken 160 = .ok (.getfield 39, 3) := by decide +kernel
theorem dX5_errorAtToken_163 : decode cX5_errorAtToken 163 = .ok (.invokevirtual 76, 3) := by decide +kernel
theorem dX5_errorAtToken_166 : decode cX5_errorAtToken 166 = .ok (.invokevirtual 79, 3) := by decide +kernel
theorem dX5_errorAtToken_169 : decode cX5_errorAtToken 169 = .ok (.ireturn, 1) := by decide +kernel
theorem dX5_errorAtToken_170 : decode cX5_errorAtToken 170 = .ok (.iconst 0, 1) := by decide +kernel
theorem dX5_errorAtToken_171 : decode cX5_errorAtToken 171 = .ok (.ireturn, 1) := by decide +kernel
theorem dX5_errorOfName_0 : decode cX5_errorOfName 0 = .ok (.aload_n 0, 1) := by decide +kernel
theorem dX5_errorOfName_1 : decode cX5_errorOfName 1 = .ok (.getfield 21, 3) := by decide +kernel
theorem dX5_errorOfName_4 : decode cX5_errorOfName 4 = .ok (.getstatic 82, 3) := by decide +kernel
theorem dX5_errorOfName_7 : decode cX5_errorOfName 7 = .ok (.if_acmp .eq 25, 3) := by decide +kernel
theorem dX5_errorOfName_10 : decode cX5_errorOfName 10 = .ok (.aload_n 0, 1) := by decide +kernel
theorem dX5_errorOfName_11 : decode cX5_errorOfName 11 = .ok (.getfield 24, 3) := by decide +kernel
theorem dX5_errorOfName_14 : decode cX5_errorOfName 14 = .ok (.aload_n 0, 1) := by decide +kernel
theorem dX5_errorOfName_15 : decode cX5_errorOfName 15 = .ok (.getfield 39, 3) := by decide +kernel
theorem dX5_errorOfName_18 : decode cX5_errorOfName 18 = .ok (.iload_n 1, 1) := by decide +kernel
theorem dX5_errorOfName_19 : decode cX5_errorOfName 19 = .ok (.invokevirtual 85, 3) := by decide +kernel
theorem dX5_errorOfName_22 : decode cX5_errorOfName 22 = .ok (.iload_n 1, 1) := by decide +kernel
theorem dX5_errorOfName_23 : decode cX5_errorOfName 23 = .ok (.ifCond .ge 7, 3) := by decide +kernel
theorem dX5_errorOfName_26 : decode cX5_errorOfName 26 = .ok (.iconst 3, 1) := by decide +kernel
theorem dX5_errorOfName_27 : decode cX5_errorOfName 27 = .ok (.goto 4, 3) := by decide +kernel
theorem dX5_errorOfName_30 : decode cX5_errorOfName 30 = .ok (.iconst 0, 1) := by decide +kernel
theorem dX5_errorOfName_31 : decode cX5_errorOfName 31 = .ok (.ireturn, 1) := by decide +kernel
theorem dX5_errorOfName_32 : decode cX5_errorOfName 32 = .ok (.iload_n 1, 1) := by decide +kernel
theorem dX5_errorOfName_33 : decode cX5_errorOfName 33 = .ok (.ifCond .lt 5, 3) := by decide +kernel
theorem dX5_errorOfName_36 : decode cX5_errorOfName 36 = .ok (.iconst 2, 1) := by decide +kernel
theorem dX5_errorOfName_37 : decode cX5_errorOfName 37 = .ok (.ireturn, 1) := by decide +kernel
theorem dX5_errorOfName_38 : decode cX5_errorOfName 38 = .ok (.aload_n 0, 1) := by decide +kernel
theorem dX5_errorOfName_39 : decode cX5_errorOfName 39 = .ok (.getfield 32, 3) := by decide +kernel
theorem dX5_errorOfName_42 : decode cX5_errorOfName 42 = .ok (.bipush 16, 2) := by decide +kernel
theorem dX5_errorOfName_44 : decode cX5_errorOfName 44 = .ok (.if_icmp .lt 5, 3) := by decide +kernel
theorem dX5_errorOfName_47 : decode cX5_errorOfName 47 = .ok (.iconst 4, 1) := by decide +kernel
theorem dX5_errorOfName_48 : decode cX5_errorOfName 48 = .ok (.ireturn, 1) := by decide +kernel
theorem dX5_errorOfName_49 : decode cX5_errorOfName 49 = .ok (.aload_n 0, 1) := by decide +kernel
theorem dX5_errorOfName_50 : decode cX5_errorOfName 50 = .ok (.getfield 9, 3) := by decide +kernel
theorem dX5_errorOfName_53 : decode cX5_errorOfName 53 = .ok (.aload_n 0, 1) := by decide +kernel
theorem dX5_errorOfName_54 : decode cX5_errorOfName 54 = .ok (.getfield 32, 3) := by decide +kernel
theorem dX5_errorOfName_57 : decode cX5_errorOfName 57 = .ok (.aload_n 0, 1) := by decide +kernel
theorem dX5_errorOfName_58 : decode cX5_errorOfName 58 = .ok (.getfield 39, 3) := by decide +kernel
theorem dX5_errorOfName_61 : decode cX5_errorOfName 61 = .ok (.iastore, 1) := by decide +kernel
theorem dX5_errorOfName_62 : decode cX5_errorOfName 62 = .ok (.aload_n 0, 1) := by decide +kernel
theorem dX5_errorOfName_63 : decode cX5_errorOfName 63 = .ok (.dup, 1) := by decide +kernel
theorem dX5_errorOfName_64 : decode cX5_errorOfName 64 = .ok (.getfield 32, 3) := by decide +kernel
theorem dX5_errorOfName_67 : decode cX5_errorOfName 67 = .ok (.iconst 1, 1) := by decide +kernel
theorem dX5_errorOfName_68 : decode cX5_errorOfName 68 = .ok (.iadd, 1) := by decide +kernel
theorem dX5_errorOfName_69 : decode cX5_errorOfName 69 = .ok (.putfield 32, 3) := by decide +kernel
theorem dX5_errorOfName_72 : decode cX5_errorOfName 72 = .ok (.iconst 0, 1) := by decide +kernel
theorem dX5_errorOfName_73 : decode cX5_errorOfName 73 = .ok (.ireturn, 1) := by decide +kernel
theorem dX5_tileNamed_0 : decode cX5_tileNamed 0 = .ok (.iconst 0, 1) := by decide +kernel
theorem dX5_tileNamed_1 : decode cX5_tileNamed 1 = .ok (.istore_n 1, 1) := by decide +kernel
theorem dX5_tileNamed_2 : decode cX5_tileNamed 2 = .ok (.iload_n 1, 1) := by decide +kernel
theorem dX5_tileNamed_3 : decode cX5_tileNamed 3 = .ok (.aload_n 0, 1) := by decide +kernel
theorem dX5_tileNamed_4 : decode cX5_tileNamed 4 = .ok (.getfield 32, 3) := by decide +kernel
theorem dX5_tileNamed_7 : decode cX5_tileNamed 7 = .ok (.if_icmp .ge 31, 3) := by decide +kernel
theorem dX5_tileNamed_10 : decode cX5_tileNamed 10 = .ok (.aload_n 0, 1) := by decide +kernel
theorem dX5_tileNamed_11 : decode cX5_tileNamed 11 = .ok (.getfield 24, 3) := by decide +kernel
theorem dX5_tileNamed_14 : decode cX5_tileNamed 14 = .ok (.aload_n 0, 1) := by decide +kernel
theorem dX5_tileNamed_15 : decode cX5_tileNamed 15 = .ok (.getfield 39, 3) := by decide +kernel
theorem dX5_tileNamed_18 : decode cX5_tileNamed 18 = .ok (.aload_n 0, 1) := by decide +kernel
theorem dX5_tileNamed_19 : decode cX5_tileNamed 19 = .ok (.getfield 9, 3) := by decide +kernel
theorem dX5_tileNamed_22 : decode cX5_tileNamed 22 = .ok (.iload_n 1, 1) := by decide +kernel
theorem dX5_tileNamed_23 : decode cX5_tileNamed 23 = .ok (.iaload, 1) := by decide +kernel
theorem dX5_tileNamed_24 : decode cX5_tileNamed 24 = .ok (.invokevirtual 89, 3) := by decide +kernel
theorem dX5_tileNamed_27 : decode cX5_tileNamed 27 = .ok (.ifCond .eq 5, 3) := by decide +kernel
theorem dX5_tileNamed_30 : decode cX5_tileNamed 30 = .ok (.iload_n 1, 1) := by decide +kernel
theorem dX5_tileNamed_31 : decode cX5_tileNamed 31 = .ok (.ireturn, 1) := by decide +kernel
theorem dX5_tileNamed_32 : decode cX5_tileNamed 32 = .ok (.iinc 1 1, 3) := by decide +kernel
theorem dX5_tileNamed_35 : decode cX5_tileNamed 35 = .ok (.goto (-33), 3) := by decide +kernel
theorem dX5_tileNamed_38 : decode cX5_tileNamed 38 = .ok (.iconst (-1), 1) := by decide +kernel
theorem dX5_tileNamed_39 : decode cX5_tileNamed 39 = .ok (.ireturn, 1) := by decide +kernel
theorem dX5_errorOfNumber_0 : decode cX5_errorOfNumber 0 = .ok (.aload_n 0, 1) := by decide +kernel
theorem dX5_errorOfNumber_1 : decode cX5_errorOfNumber 1 = .ok (.getfield 21, 3) := by decide +kernel
theorem dX5_errorOfNumber_4 : decode cX5_errorOfNumber 4 = .ok (.getstatic 93, 3) := by decide +kernel
theorem dX5_errorOfNumber_7 : decode cX5_errorOfNumber 7 = .ok (.if_acmp .ne 28, 3) := by decide +kernel
theorem dX5_errorOfNumber_10 : decode cX5_errorOfNumber 10 = .ok (.aload_n 0, 1) := by decide +kernel
theorem dX5_errorOfNumber_11 : decode cX5_errorOfNumber 11 = .ok (.getfield 28, 3) := by decide +kernel
theorem dX5_errorOfNumber_14 : decode cX5_errorOfNumber 14 = .ok (.iload_n 1, 1) := by decide +kernel
theorem dX5_errorOfNumber_15 : decode cX5_errorOfNumber 15 = .ok (.invokevirtual 96, 3) := by decide +kernel
theorem dX5_errorOfNumber_18 : decode cX5_errorOfNumber 18 = .ok (.iload_n 1, 1) := by decide +kernel
theorem dX5_errorOfNumber_19 : decode cX5_errorOfNumber 19 = .ok (.iconst 3, 1) := by decide +kernel
theorem dX5_errorOfNumber_20 : decode cX5_errorOfNumber 20 = .ok (.if_icmp .lt 9, 3) := by decide +kernel
theorem dX5_errorOfNumber_23 : decode cX5_errorOfNumber 23 = .ok (.iload_n 1, 1) := by decide +kernel
theorem dX5_errorOfNumber_24 : decode cX5_errorOfNumber 24 = .ok (.bipush 7, 2) := by decide +kernel
theorem dX5_errorOfNumber_26 : decode cX5_errorOfNumber 26 = .ok (.if_icmp .le 7, 3) := by decide +kernel
theorem dX5_errorOfNumber_29 : decode cX5_errorOfNumber 29 = .ok (.iconst 5, 1) := by decide +kernel
theorem dX5_errorOfNumber_30 : decode cX5_errorOfNumber 30 = .ok (.goto 4, 3) := by decide +kernel
theorem dX5_errorOfNumber_33 : decode cX5_errorOfNumber 33 = .ok (.iconst 0, 1) := by decide +kernel
theorem dX5_errorOfNumber_34 : decode cX5_errorOfNumber 34 = .ok (.ireturn, 1) := by decide +kernel
theorem dX5_errorOfNumber_35 : decode cX5_errorOfNumber 35 = .ok (.aload_n 0, 1) := by decide +kernel
theorem dX5_errorOfNumber_36 : decode cX5_errorOfNumber 36 = .ok (.getfield 21, 3) := by decide +kernel
theorem dX5_errorOfNumber_39 : decode cX5_errorOfNumber 39 = .ok (.getstatic 82, 3) := by decide +kernel
theorem dX5_errorOfNumber_42 : decode cX5_errorOfNumber 42 = .ok (.if_acmp .ne 23, 3) := by decide +kernel
theorem dX5_errorOfNumber_45 : decode cX5_errorOfNumber 45 = .ok (.aload_n 0, 1) := by decide +kernel
theorem dX5_errorOfNumber_46 : decode cX5_errorOfNumber 46 = .ok (.getfield 28, 3) := by decide +kernel
theorem dX5_errorOfNumber_49 : decode cX5_errorOfNumber 49 = .ok (.iload_n 1, 1) := by decide +kernel
theorem dX5_errorOfNumber_50 : decode cX5_errorOfNumber 50 = .ok (.invokevirtual 100, 3) := by decide +kernel
theorem dX5_errorOfNumber_53 : decode cX5_errorOfNumber 53 = .ok (.iload_n 1, 1) := by decide +kernel
theorem dX5_errorOfNumber_54 : decode cX5_errorOfNumber 54 = .ok (.bipush 10, 2) := by decide +kernel
theorem dX5_errorOfNumber_56 : decode cX5_errorOfNumber 56 = .ok (.if_icmp .lt 7, 3) := by decide +kernel
theorem dX5_errorOfNumber_59 : decode cX5_errorOfNumber 59 = .ok (.iconst 5, 1) := by decide +kernel
theorem dX5_errorOfNumber_60 : decode cX5_errorOfNumber 60 = .ok (.goto 4, 3) := by decide +kernel
theorem dX5_errorOfNumber_63 : decode cX5_errorOfNumber 63 = .ok (.iconst 0, 1) := by decide +kernel
theorem dX5_errorOfNumber_64 : decode cX5_errorOfNumber 64 = .ok (.ireturn, 1) := by decide +kernel
theorem dX5_errorOfNumber_65 : decode cX5_errorOfNumber 65 = .ok (.iconst 0, 1) := by decide +kernel
theorem dX5_errorOfNumber_66 : decode cX5_errorOfNumber 66 = .ok (.ireturn, 1) := by decide +kernel
