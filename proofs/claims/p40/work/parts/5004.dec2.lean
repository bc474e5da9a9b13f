theorem dX3_init_0 : decode cX3_init 0 = .ok (.aload_n 0, 1) := by decide +kernel
theorem dX3_init_1 : decode cX3_init 1 = .ok (.invokespecial 3, 3) := by decide +kernel
theorem dX3_init_4 : decode cX3_init 4 = .ok (.aload_n 0, 1) := by decide +kernel
theorem dX3_init_5 : decode cX3_init 5 = .ok (.getstatic 9, 3) := by decide +kernel
theorem dX3_init_8 : decode cX3_init 8 = .ok (.putfield 15, 3) := by decide +kernel
theorem dX3_init_11 : decode cX3_init 11 = .ok (.aload_n 0, 1) := by decide +kernel
theorem dX3_init_12 : decode cX3_init 12 = .ok (.aload_n 1, 1) := by decide +kernel
theorem dX3_init_13 : decode cX3_init 13 = .ok (.putfield 20, 3) := by decide +kernel
theorem dX3_init_16 : decode cX3_init 16 = .ok (.aload_n 0, 1) := by decide +kernel
theorem dX3_init_17 : decode cX3_init 17 = .ok (.aload_n 2, 1) := by decide +kernel
theorem dX3_init_18 : decode cX3_init 18 = .ok (.putfield 24, 3) := by decide +kernel
theorem dX3_init_21 : decode cX3_init 21 = .ok (.return_, 1) := by decide +kernel
theorem dX3_readsGame_0 : decode cX3_readsGame 0 = .ok (.aload_n 0, 1) := by decide +kernel
theorem dX3_readsGame_1 : decode cX3_readsGame 1 = .ok (.iconst 0, 1) := by decide +kernel
theorem dX3_readsGame_2 : decode cX3_readsGame 2 = .ok (.putfield 28, 3) := by decide +kernel
theorem dX3_readsGame_5 : decode cX3_readsGame 5 = .ok (.aload_n 0, 1) := by decide +kernel
theorem dX3_readsGame_6 : decode cX3_readsGame 6 = .ok (.aload_n 0, 1) := by decide +kernel
theorem dX3_readsGame_7 : decode cX3_readsGame 7 = .ok (.getfield 20, 3) := by decide +kernel
theorem dX3_readsGame_10 : decode cX3_readsGame 10 = .ok (.aload_n 0, 1) := by decide +kernel
theorem dX3_readsGame_11 : decode cX3_readsGame 11 = .ok (.getfield 28, 3) := by decide +kernel
theorem dX3_readsGame_14 : decode cX3_readsGame 14 = .ok (.invokevirtual 32, 3) := by decide +kernel
theorem dX3_readsGame_17 : decode cX3_readsGame 17 = .ok (.putfield 15, 3) := by decide +kernel
theorem dX3_readsGame_20 : decode cX3_readsGame 20 = .ok (.aload_n 0, 1) := by decide +kernel
theorem dX3_readsGame_21 : decode cX3_readsGame 21 = .ok (.getstatic 38, 3) := by decide +kernel
theorem dX3_readsGame_24 : decode cX3_readsGame 24 = .ok (.invokevirtual 41, 3) := by decide +kernel
theorem dX3_readsGame_27 : decode cX3_readsGame 27 = .ok (.ifCond .eq 43, 3) := by decide +kernel
theorem dX3_readsGame_30 : decode cX3_readsGame 30 = .ok (.aload_n 0, 1) := by decide +kernel
theorem dX3_readsGame_31 : decode cX3_readsGame 31 = .ok (.getstatic 45, 3) := by decide +kernel
theorem dX3_readsGame_34 : decode cX3_readsGame 34 = .ok (.invokevirtual 41, 3) := by decide +kernel
theorem dX3_readsGame_37 : decode cX3_readsGame 37 = .ok (.ifCond .eq 37, 3) := by decide +kernel
theorem dX3_readsGame_40 : decode cX3_readsGame 40 = .ok (.aload_n 0, 1) := by decide +kernel
theorem dX3_readsGame_41 : decode cX3_readsGame 41 = .ok (.getstatic 48, 3) := by decide +kernel
theorem dX3_readsGame_44 : decode cX3_readsGame 44 = .ok (.invokevirtual 41, 3) := by decide +kernel
theorem dX3_readsGame_47 : decode cX3_readsGame 47 = .ok (.ifCond .eq 27, 3) := by decide +kernel
theorem dX3_readsGame_50 : decode cX3_readsGame 50 = .ok (.aload_n 0, 1) := by decide +kernel
theorem dX3_readsGame_51 : decode cX3_readsGame 51 = .ok (.getstatic 45, 3) := by decide +kernel
theorem dX3_readsGame_54 : decode cX3_readsGame 54 = .ok (.invokevirtual 41, 3) := by decide +kernel
theorem dX3_readsGame_57 : decode cX3_readsGame 57 = .ok (.ifCond .eq 17, 3) := by decide +kernel
theorem dX3_readsGame_60 : decode cX3_readsGame 60 = .ok (.aload_n 0, 1) := by decide +kernel
theorem dX3_readsGame_61 : decode cX3_readsGame 61 = .ok (.getstatic 51, 3) := by decide +kernel
theorem dX3_readsGame_64 : decode cX3_readsGame 64 = .ok (.invokevirtual 41, 3) := by decide +kernel
theorem dX3_readsGame_67 : decode cX3_readsGame 67 = .ok (.ifCond .eq 7, 3) := by decide +kernel
theorem dX3_readsGame_70 : decode cX3_readsGame 70 = .ok (.iconst 1, 1) := by decide +kernel
theorem dX3_readsGame_71 : decode cX3_readsGame 71 = .ok (.goto 4, 3) := by decide +kernel
theorem dX3_readsGame_74 : decode cX3_readsGame 74 = .ok (.iconst 0, 1) := by decide +kernel
theorem dX3_readsGame_75 : decode cX3_readsGame 75 = .ok (.istore_n 1, 1) := by decide +kernel
theorem dX3_readsGame_76 : decode cX3_readsGame 76 = .ok (.iconst 0, 1) := by decide +kernel
theorem dX3_readsGame_77 : decode cX3_readsGame 77 = .ok (.istore_n 2, 1) := by decide +kernel
theorem dX3_readsGame_78 : decode cX3_readsGame 78 = .ok (.iload_n 2, 1) := by decide +kernel
theorem dX3_readsGame_79 : decode cX3_readsGame 79 = .ok (.sipush 400, 3) := by decide +kernel
theorem dX3_readsGame_82 : decode cX3_readsGame 82 = .ok (.if_icmp .ge 66, 3) := by decide +kernel
theorem dX3_readsGame_85 : decode cX3_readsGame 85 = .ok (.iload_n 1, 1) := by decide +kernel
theorem dX3_readsGame_86 : decode cX3_readsGame 86 = .ok (.ifCond .eq 62, 3) := by decide +kernel
theorem dX3_readsGame_89 : decode cX3_readsGame 89 = .ok (.aload_n 0, 1) := by decide +kernel
theorem dX3_readsGame_90 : decode cX3_readsGame 90 = .ok (.getfield 15, 3) := by decide +kernel
theorem dX3_readsGame_93 : decode cX3_readsGame 93 = .ok (.getstatic 9, 3) := by decide +kernel
theorem dX3_readsGame_96 : decode cX3_readsGame 96 = .ok (.if_acmp .eq 52, 3) := by decide +kernel
theorem dX3_readsGame_99 : decode cX3_readsGame 99 = .ok (.aload_n 0, 1) := by decide +kernel
theorem dX3_readsGame_100 : decode cX3_readsGame 100 = .ok (.getfield 15, 3) := by decide +kernel
theorem dX3_readsGame_103 : decode cX3_readsGame 103 = .ok (.getstatic 54, 3) := by decide +kernel
theorem dX3_readsGame_106 : decode cX3_readsGame 106 = .ok (.if_acmp .ne 13, 3) := by decide +kernel
theorem dX3_readsGame_109 : decode cX3_readsGame 109 = .ok (.aload_n 0, 1) := by decide +kernel
theorem dX3_readsGame_110 : decode cX3_readsGame 110 = .ok (.invokevirtual 57, 3) := by decide +kernel
theorem dX3_readsGame_113 : decode cX3_readsGame 113 = .ok (.ifCond .eq 27, 3) := by decide +kernel
theorem dX3_readsGame_116 : decode cX3_readsGame 116 = .ok (.goto 10, 3) := by decide +kernel
theorem dX3_readsGame_119 : decode cX3_readsGame 119 = .ok (.aload_n 0, 1) := by decide +kernel
theorem dX3_readsGame_120 : decode cX3_readsGame 120 = .ok (.invokevirtual 61, 3) := by decide +kernel
theorem dX3_readsGame_123 : decode cX3_readsGame 123 = .ok (.ifCond .eq 17, 3) := by decide +kernel
theorem dX3_readsGame_126 : decode cX3_readsGame 126 = .ok (.aload_n 0, 1) := by decide +kernel
theorem dX3_readsGame_127 : decode cX3_readsGame 127 = .ok (.getstatic 51, 3) := by decide +kernel
theorem dX3_readsGame_130 : decode cX3_readsGame 130 = .ok (.invokevirtual 41, 3) := by decide +kernel
theorem dX3_readsGame_133 : decode cX3_readsGame 133 = .ok (.ifCond .eq 7, 3) := by decide +kernel
theorem dX3_readsGame_136 : decode cX3_readsGame 136 = .ok (.iconst 1, 1) := by decide +kernel
theorem dX3_readsGame_137 : decode cX3_readsGame 137 = .ok (.goto 4, 3) := by decide +kernel
theorem dX3_readsGame_140 : decode cX3_readsGame 140 = .ok (.iconst 0, 1) := by decide +kernel
theorem dX3_readsGame_141 : decode cX3_readsGame 141 = .ok (.istore_n 1, 1) := by decide +kernel
theorem dX3_readsGame_142 : decode cX3_readsGame 142 = .ok (.iinc 2 1, 3) := by decide +kernel
theorem dX3_readsGame_145 : decode cX3_readsGame 145 = .ok (.goto (-67), 3) := by decide +kernel
theorem dX3_readsGame_148 : decode cX3_readsGame 148 = .ok (.iload_n 1, 1) := by decide +kernel
theorem dX3_readsGame_149 : decode cX3_readsGame 149 = .ok (.ifCond .eq 17, 3) := by decide +kernel
theorem dX3_readsGame_152 : decode cX3_readsGame 152 = .ok (.aload_n 0, 1) := by decide +kernel
theorem dX3_readsGame_153 : decode cX3_readsGame 153 = .ok (.getfield 15, 3) := by decide +kernel
theorem dX3_readsGame_156 : decode cX3_readsGame 156 = .ok (.getstatic 9, 3) := by decide +kernel
theorem dX3_readsGame_159 : decode cX3_readsGame 159 = .ok (.if_acmp .ne 7, 3) := by decide +kernel
theorem dX3_readsGame_162 : decode cX3_readsGame 162 = .ok (.iconst 1, 1) := by decide +kernel
theorem dX3_readsGame_163 : decode cX3_readsGame 163 = .ok (.goto 4, 3) := by decide +kernel
theorem dX3_readsGame_166 : decode cX3_readsGame 166 = .ok (.iconst 0, 1) := by decide +kernel
theorem dX3_readsGame_167 : decode cX3_readsGame 167 = .ok (.ireturn, 1) := by decide +kernel
theorem dX3_readsTile_0 : decode cX3_readsTile 0 = .ok (.aload_n 0, 1) := by decide +kernel
theorem dX3_readsTile_1 : decode cX3_readsTile 1 = .ok (.getstatic 54, 3) := by decide +kernel
theorem dX3_readsTile_4 : decode cX3_readsTile 4 = .ok (.invokevirtual 41, 3) := by decide +kernel
theorem dX3_readsTile_7 : decode cX3_readsTile 7 = .ok (.ifCond .eq 47, 3) := by decide +kernel
theorem dX3_readsTile_10 : decode cX3_readsTile 10 = .ok (.aload_n 0, 1) := by decide +kernel
theorem dX3_readsTile_11 : decode cX3_readsTile 11 = .ok (.getstatic 64, 3) := by decide +kernel
theorem dX3_readsTile_14 : decode cX3_readsTile 14 = .ok (.invokevirtual 41, 3) := by decide +kernel
theorem dX3_readsTile_17 : decode cX3_readsTile 17 = .ok (.ifCond .eq 37, 3) := by decide +kernel
theorem dX3_readsTile_20 : decode cX3_readsTile 20 = .ok (.aload_n 0, 1) := by decide +kernel
theorem dX3_readsTile_21 : decode cX3_readsTile 21 = .ok (.getstatic 45, 3) := by decide +kernel
theorem dX3_readsTile_24 : decode cX3_readsTile 24 = .ok (.invokevirtual 41, 3) := by decide +kernel
theorem dX3_readsTile_27 : decode cX3_readsTile 27 = .ok (.ifCond .eq 27, 3) := by decide +kernel
theorem dX3_readsTile_30 : decode cX3_readsTile 30 = .ok (.aload_n 0, 1) := by decide +kernel
theorem dX3_readsTile_31 : decode cX3_readsTile 31 = .ok (.getstatic 45, 3) := by decide +kernel
theorem dX3_readsTile_34 : decode cX3_readsTile 34 = .ok (.invokevirtual 41, 3) := by decide +kernel
theorem dX3_readsTile_37 : decode cX3_readsTile 37 = .ok (.ifCond .eq 17, 3) := by decide +kernel
theorem dX3_readsTile_40 : decode cX3_readsTile 40 = .ok (.aload_n 0, 1) := by decide +kernel
theorem dX3_readsTile_41 : decode cX3_readsTile 41 = .ok (.getstatic 45, 3) := by decide +kernel
theorem dX3_readsTile_44 : decode cX3_readsTile 44 = .ok (.invokevirtual 41, 3) := by decide +kernel
theorem dX3_readsTile_47 : decode cX3_readsTile 47 = .ok (.ifCond .eq 7, 3) := by decide +kernel
theorem dX3_readsTile_50 : decode cX3_readsTile 50 = .ok (.iconst 1, 1) := by decide +kernel
theorem dX3_readsTile_51 : decode cX3_readsTile 51 = .ok (.goto 4, 3) := by decide +kernel
theorem dX3_readsTile_54 : decode cX3_readsTile 54 = .ok (.iconst 0, 1) := by decide +kernel
theorem dX3_readsTile_55 : decode cX3_readsTile 55 = .ok (.ireturn, 1) := by decide +kernel
theorem dX3_readsOrder_0 : decode cX3_readsOrder 0 = .ok (.aload_n 0, 1) := by decide +kernel
theorem dX3_readsOrder_1 : decode cX3_readsOrder 1 = .ok (.getfield 15, 3) := by decide +kernel
theorem dX3_readsOrder_4 : decode cX3_readsOrder 4 = .ok (.astore_n 1, 1) := by decide +kernel
theorem dX3_readsOrder_5 : decode cX3_readsOrder 5 = .ok (.aload_n 0, 1) := by decide +kernel
theorem dX3_readsOrder_6 : decode cX3_readsOrder 6 = .ok (.getstatic 67, 3) := by decide +kernel
theorem dX3_readsOrder_9 : decode cX3_readsOrder 9 = .ok (.invokevirtual 41, 3) := by decide +kernel
theorem dX3_readsOrder_12 : decode cX3_readsOrder 12 = .ok (.ifCond .ne 25, 3) := by decide +kernel
theorem dX3_readsOrder_15 : decode cX3_readsOrder 15 = .ok (.aload_n 0, 1) := by decide +kernel
theorem dX3_readsOrder_16 : decode cX3_readsOrder 16 = .ok (.getstatic 70, 3) := by decide +kernel
theorem dX3_readsOrder_19 : decode cX3_readsOrder 19 = .ok (.invokevirtual 41, 3) := by decide +kernel
theorem dX3_readsOrder_22 : decode cX3_readsOrder 22 = .ok (.ifCond .ne 15, 3) := by decide +kernel
theorem dX3_readsOrder_25 : decode cX3_readsOrder 25 = .ok (.aload_n 0, 1) := by decide +kernel
theorem dX3_readsOrder_26 : decode cX3_readsOrder 26 = .ok (.getstatic 73, 3) := by decide +kernel
theorem dX3_readsOrder_29 : decode cX3_readsOrder 29 = .ok (.invokevirtual 41, 3) := by decide +kernel
theorem dX3_readsOrder_32 : decode cX3_readsOrder 32 = .ok (.ifCond .ne 5, 3) := by decide +kernel
theorem dX3_readsOrder_35 : decode cX3_readsOrder 35 = .ok (.iconst 0, 1) := by decide +kernel
theorem dX3_readsOrder_36 : decode cX3_readsOrder 36 = .ok (.ireturn, 1) := by decide +kernel
theorem dX3_readsOrder_37 : decode cX3_readsOrder 37 = .ok (.aload_n 0, 1) := by decide +kernel
theorem dX3_readsOrder_38 : decode cX3_readsOrder 38 = .ok (.getfield 24, 3) := by decide +kernel
theorem dX3_readsOrder_41 : decode cX3_readsOrder 41 = .ok (.aload_n 1, 1) := by decide +kernel
theorem dX3_readsOrder_42 : decode cX3_readsOrder 42 = .ok (.aload_n 0, 1) := by decide +kernel
theorem dX3_readsOrder_43 : decode cX3_readsOrder 43 = .ok (.getfield 28, 3) := by decide +kernel
theorem dX3_readsOrder_46 : decode cX3_readsOrder 46 = .ok (.invokevirtual 76, 3) := by decide +kernel
theorem dX3_readsOrder_49 : decode cX3_readsOrder 49 = .ok (.aload_n 0, 1) := by decide +kernel
theorem dX3_readsOrder_50 : decode cX3_readsOrder 50 = .ok (.getstatic 64, 3) := by decide +kernel
theorem dX3_readsOrder_53 : decode cX3_readsOrder 53 = .ok (.invokevirtual 41, 3) := by decide +kernel
theorem dX3_readsOrder_56 : decode cX3_readsOrder 56 = .ok (.istore_n 2, 1) := by decide +kernel
theorem dX3_readsOrder_57 : decode cX3_readsOrder 57 = .ok (.iload_n 2, 1) := by decide +kernel
theorem dX3_readsOrder_58 : decode cX3_readsOrder 58 = .ok (.ifCond .eq 70, 3) := by decide +kernel
theorem dX3_readsOrder_61 : decode cX3_readsOrder 61 = .ok (.aload_n 1, 1) := by decide +kernel
theorem dX3_readsOrder_62 : decode cX3_readsOrder 62 = .ok (.getstatic 67, 3) := by decide +kernel
theorem dX3_readsOrder_65 : decode cX3_readsOrder 65 = .ok (.if_acmp .ne 63, 3) := by decide +kernel
theorem dX3_readsOrder_68 : decode cX3_readsOrder 68 = .ok (.aload_n 0, 1) := by decide +kernel
theorem dX3_readsOrder_69 : decode cX3_readsOrder 69 = .ok (.getstatic 82, 3) := by decide +kernel
theorem dX3_readsOrder_72 : decode cX3_readsOrder 72 = .ok (.invokevirtual 41, 3) := by decide +kernel
theorem dX3_readsOrder_75 : decode cX3_readsOrder 75 = .ok (.ifCond .eq 51, 3) := by decide +kernel
theorem dX3_readsOrder_78 : decode cX3_readsOrder 78 = .ok (.aload_n 0, 1) := by decide +kernel
theorem dX3_readsOrder_79 : decode cX3_readsOrder 79 = .ok (.iconst 0, 1) := by decide +kernel
theorem dX3_readsOrder_80 : decode cX3_readsOrder 80 = .ok (.invokevirtual 85, 3) := by decide +kernel
theorem dX3_readsOrder_83 : decode cX3_readsOrder 83 = .ok (.ifCond .eq 43, 3) := by decide +kernel
theorem dX3_readsOrder_86 : decode cX3_readsOrder 86 = .ok (.aload_n 0, 1) := by decide +kernel
theorem dX3_readsOrder_87 : decode cX3_readsOrder 87 = .ok (.getstatic 89, 3) := by decide +kernel
theorem dX3_readsOrder_90 : decode cX3_readsOrder 90 = .ok (.invokevirtual 41, 3) := by decide +kernel
theorem dX3_readsOrder_93 : decode cX3_readsOrder 93 = .ok (.ifCond .eq 33, 3) := by decide +kernel
theorem dX3_readsOrder_96 : decode cX3_readsOrder 96 = .ok (.aload_n 0, 1) := by decide +kernel
theorem dX3_readsOrder_97 : decode cX3_readsOrder 97 = .ok (.iconst 0, 1) := by decide +kernel
theorem dX3_readsOrder_98 : decode cX3_readsOrder 98 = .ok (.invokevirtual 85, 3) := by decide +kernel
theorem dX3_readsOrder_101 : decode cX3_readsOrder 101 = .ok (.ifCond .eq 25, 3) := by decide +kernel
theorem dX3_readsOrder_104 : decode cX3_readsOrder 104 = .ok (.aload_n 0, 1) := by decide +kernel
theorem dX3_readsOrder_105 : decode cX3_readsOrder 105 = .ok (.getstatic 92, 3) := by decide +kernel
theorem dX3_readsOrder_108 : decode cX3_readsOrder 108 = .ok (.invokevirtual 41, 3) := by decide +kernel
theorem dX3_readsOrder_111 : decode cX3_readsOrder 111 = .ok (.ifCond .eq 15, 3) := by decide +kernel
theorem dX3_readsOrder_114 : decode cX3_readsOrder 114 = .ok (.aload_n 0, 1) := by decide +kernel
theorem dX3_readsOrder_115 : decode cX3_readsOrder 115 = .ok (.iconst 0, 1) := by decide +kernel
theorem dX3_readsOrder_116 : decode cX3_readsOrder 116 = .ok (.invokevirtual 85, 3) := by decide +kernel
theorem dX3_readsOrder_119 : decode cX3_readsOrder 119 = .ok (.ifCond .eq 7, 3) := by decide +kernel
theorem dX3_readsOrder_122 : decode cX3_readsOrder 122 = .ok (.iconst 1, 1) := by decide +kernel
theorem dX3_readsOrder_123 : decode cX3_readsOrder 123 = .ok (.goto 4, 3) := by decide +kernel
theorem dX3_readsOrder_126 : decode cX3_readsOrder 126 = .ok (.iconst 0, 1) := by decide +kernel
theorem dX3_readsOrder_127 : decode cX3_readsOrder 127 = .ok (.istore_n 2, 1) := by decide +kernel
theorem dX3_readsOrder_128 : decode cX3_readsOrder 128 = .ok (.aload_n 0, 1) := by decide +kernel
theorem dX3_readsOrder_129 : decode cX3_readsOrder 129 = .ok (.getfield 24, 3) := by decide +kernel
theorem dX3_readsOrder_132 : decode cX3_readsOrder 132 = .ok (.invokevirtual 95, 3) := by decide +kernel
theorem dX3_readsOrder_135 : decode cX3_readsOrder 135 = .ok (.iload_n 2, 1) := by decide +kernel
theorem dX3_readsOrder_136 : decode cX3_readsOrder 136 = .ok (.ifCond .eq 19, 3) := by decide +kernel
theorem dX3_readsOrder_139 : decode cX3_readsOrder 139 = .ok (.aload_n 0, 1) := by decide +kernel
theorem dX3_readsOrder_140 : decode cX3_readsOrder 140 = .ok (.getstatic 98, 3) := by decide +kernel
theorem dX3_readsOrder_143 : decode cX3_readsOrder 143 = .ok (.invokevirtual 41, 3) := by decide +kernel
theorem dX3_readsOrder_146 : decode cX3_readsOrder 146 = .ok (.ifCond .eq 9, 3) := by decide +kernel
theorem dX3_readsOrder_149 : decode cX3_readsOrder 149 = .ok (.aload_n 0, 1) := by decide +kernel
theorem dX3_readsOrder_150 : decode cX3_readsOrder 150 = .ok (.iconst 0, 1) := by decide +kernel
theorem dX3_readsOrder_151 : decode cX3_readsOrder 151 = .ok (.invokevirtual 101, 3) := by decide +kernel
theorem dX3_readsOrder_154 : decode cX3_readsOrder 154 = .ok (.istore_n 2, 1) := by decide +kernel
theorem dX3_readsOrder_155 : decode cX3_readsOrder 155 = .ok (.aload_n 0, 1) := by decide +kernel
theorem dX3_readsOrder_156 : decode cX3_readsOrder 156 = .ok (.getfield 24, 3) := by decide +kernel
theorem dX3_readsOrder_159 : decode cX3_readsOrder 159 = .ok (.invokevirtual 104, 3) := by decide +kernel
theorem dX3_readsOrder_162 : decode cX3_readsOrder 162 = .ok (.iload_n 2, 1) := by decide +kernel
theorem dX3_readsOrder_163 : decode cX3_readsOrder 163 = .ok (.ireturn, 1) := by decide +kernel
theorem dX3_readsTest_0 : decode cX3_readsTest 0 = .ok (.aload_n 0, 1) := by decide +kernel
theorem dX3_readsTest_1 : decode cX3_readsTest 1 = .ok (.iload_n 1, 1) := by decide +kernel
theorem dX3_readsTest_2 : decode cX3_readsTest 2 = .ok (.invokevirtual 107, 3) := by decide +kernel
theorem dX3_readsTest_5 : decode cX3_readsTest 5 = .ok (.istore_n 2, 1) := by decide +kernel
theorem dX3_readsTest_6 : decode cX3_readsTest 6 = .ok (.iconst 0, 1) := by decide +kernel
theorem dX3_readsTest_7 : decode cX3_readsTest 7 = .ok (.istore_n 3, 1) := by decide +kernel
theorem dX3_readsTest_8 : decode cX3_readsTest 8 = .ok (.iload_n 3, 1) := by decide +kernel
theorem dX3_readsTest_9 : decode cX3_readsTest 9 = .ok (.sipush 400, 3) := by decide +kernel
theorem dX3_readsTest_12 : decode cX3_readsTest 12 = .ok (.if_icmp .ge 54, 3) := by decide +kernel
theorem dX3_readsTest_15 : decode cX3_readsTest 15 = .ok (.iload_n 2, 1) := by decide +kernel
theorem dX3_readsTest_16 : decode cX3_readsTest 16 = .ok (.ifCond .eq 50, 3) := by decide +kernel
theorem dX3_readsTest_19 : decode cX3_readsTest 19 = .ok (.aload_n 0, 1) := by decide +kernel
theorem dX3_readsTest_20 : decode cX3_readsTest 20 = .ok (.getstatic 110, 3) := by decide +kernel
theorem dX3_readsTest_23 : decode cX3_readsTest 23 = .ok (.invokevirtual 41, 3) := by decide +kernel
theorem dX3_readsTest_26 : decode cX3_readsTest 26 = .ok (.ifCond .eq 40, 3) := by decide +kernel
theorem dX3_readsTest_29 : decode cX3_readsTest 29 = .ok (.aload_n 0, 1) := by decide +kernel
theorem dX3_readsTest_30 : decode cX3_readsTest 30 = .ok (.iload_n 1, 1) := by decide +kernel
theorem dX3_readsTest_31 : decode cX3_readsTest 31 = .ok (.invokevirtual 107, 3) := by decide +kernel
theorem dX3_readsTest_34 : decode cX3_readsTest 34 = .ok (.ifCond .eq 24, 3) := by decide +kernel
theorem dX3_readsTest_37 : decode cX3_readsTest 37 = .ok (.aload_n 0, 1) := by decide +kernel
theorem dX3_readsTest_38 : decode cX3_readsTest 38 = .ok (.getfield 24, 3) := by decide +kernel
theorem dX3_readsTest_41 : decode cX3_readsTest 41 = .ok (.getstatic 110, 3) := by decide +kernel
theorem dX3_readsTest_44 : decode cX3_readsTest 44 = .ok (.aload_n 0, 1) := by decide +kernel
theorem dX3_readsTest_45 : decode cX3_readsTest 45 = .ok (.getfield 28, 3) := by decide +kernel
theorem dX3_readsTest_48 : decode cX3_readsTest 48 = .ok (.invokevirtual 113, 3) := by decide +kernel
theorem dX3_readsTest_51 : decode cX3_readsTest 51 = .ok (.ifCond .eq 7, 3) := by decide +kernel
theorem dX3_readsTest_54 : decode cX3_readsTest 54 = .ok (.iconst 1, 1) := by decide +kernel
theorem dX3_readsTest_55 : decode cX3_readsTest 55 = .ok (.goto 4, 3) := by decide +kernel
theorem dX3_readsTest_58 : decode cX3_readsTest 58 = .ok (.iconst 0, 1) := by decide +kernel
theorem dX3_readsTest_59 : decode cX3_readsTest 59 = .ok (.istore_n 2, 1) := by decide +kernel
theorem dX3_readsTest_60 : decode cX3_readsTest 60 = .ok (.iinc 3 1, 3) := by decide +kernel
theorem dX3_readsTest_63 : decode cX3_readsTest 63 = .ok (.goto (-55), 3) := by decide +kernel
theorem dX3_readsTest_66 : decode cX3_readsTest 66 = .ok (.iload_n 2, 1) := by decide +kernel
theorem dX3_readsTest_67 : decode cX3_readsTest 67 = .ok (.ireturn, 1) := by decide +kernel
theorem dX3_readsBoth_0 : decode cX3_readsBoth 0 = .ok (.aload_n 0, 1) := by decide +kernel
theorem dX3_readsBoth_1 : decode cX3_readsBoth 1 = .ok (.iload_n 1, 1) := by decide +kernel
theorem dX3_readsBoth_2 : decode cX3_readsBoth 2 = .ok (.invokevirtual 117, 3) := by decide +kernel
theorem dX3_readsBoth_5 : decode cX3_readsBoth 5 = .ok (.istore_n 2, 1) := by decide +kernel
theorem dX3_readsBoth_6 : decode cX3_readsBoth 6 = .ok (.iconst 0, 1) := by decide +kernel
theorem dX3_readsBoth_7 : decode cX3_readsBoth 7 = .ok (.istore_n 3, 1) := by decide +kernel
theorem dX3_readsBoth_8 : decode cX3_readsBoth 8 = .ok (.iload_n 3, 1) := by decide +kernel
theorem dX3_readsBoth_9 : decode cX3_readsBoth 9 = .ok (.sipush 400, 3) := by decide +kernel
theorem dX3_readsBoth_12 : decode cX3_readsBoth 12 = .ok (.if_icmp .ge 54, 3) := by decide +kernel
theorem dX3_readsBoth_15 : decode cX3_readsBoth 15 = .ok (.iload_n 2, 1) := by decide +kernel
theorem dX3_readsBoth_16 : decode cX3_readsBoth 16 = .ok (.ifCond .eq 50, 3) := by decide +kernel
theorem dX3_readsBoth_19 : decode cX3_readsBoth 19 = .ok (.aload_n 0, 1) := by decide +kernel
theorem dX3_readsBoth_20 : decode cX3_readsBoth 20 = .ok (.getstatic 120, 3) := by decide +kernel
theorem dX3_readsBoth_23 : decode cX3_readsBoth 23 = .ok (.invokevirtual 41, 3) := by decide +kernel
theorem dX3_readsBoth_26 : decode cX3_readsBoth 26 = .ok (.ifCond .eq 40, 3) := by decide +kernel
theorem dX3_readsBoth_29 : decode cX3_readsBoth 29 = .ok (.aload_n 0, 1) := by decide +kernel
theorem dX3_readsBoth_30 : decode cX3_readsBoth 30 = .ok (.iload_n 1, 1) := by decide +kernel
theorem dX3_readsBoth_31 : decode cX3_readsBoth 31 = .ok (.invokevirtual 117, 3) := by decide +kernel
theorem dX3_readsBoth_34 : decode cX3_readsBoth 34 = .ok (.ifCond .eq 24, 3) := by decide +kernel
theorem dX3_readsBoth_37 : decode cX3_readsBoth 37 = .ok (.aload_n 0, 1) := by decide +kernel
theorem dX3_readsBoth_38 : decode cX3_readsBoth 38 = .ok (.getfield 24, 3) := by decide +kernel
theorem dX3_readsBoth_41 : decode cX3_readsBoth 41 = .ok (.getstatic 120, 3) := by decide +kernel
theorem dX3_readsBoth_44 : decode cX3_readsBoth 44 = .ok (.aload_n 0, 1) := by decide +kernel
theorem dX3_readsBoth_45 : decode cX3_readsBoth 45 = .ok (.getfield 28, 3) := by decide +kernel
theorem dX3_readsBoth_48 : decode cX3_readsBoth 48 = .ok (.invokevirtual 113, 3) := by decide +kernel
theorem dX3_readsBoth_51 : decode cX3_readsBoth 51 = .ok (.ifCond .eq 7, 3) := by decide +kernel
theorem dX3_readsBoth_54 : decode cX3_readsBoth 54 = .ok (.iconst 1, 1) := by decide +kernel
theorem dX3_readsBoth_55 : decode cX3_readsBoth 55 = .ok (.goto 4, 3) := by decide +kernel
theorem dX3_readsBoth_58 : decode cX3_readsBoth 58 = .ok (.iconst 0, 1) := by decide +kernel
theorem dX3_readsBoth_59 : decode cX3_readsBoth 59 = .ok (.istore_n 2, 1) := by decide +kernel
theorem dX3_readsBoth_60 : decode cX3_readsBoth 60 = .ok (.iinc 3 1, 3) := by decide +kernel
theorem dX3_readsBoth_63 : decode cX3_readsBoth 63 = .ok (.goto (-55), 3) := by decide +kernel
theorem dX3_readsBoth_66 : decode cX3_readsBoth 66 = .ok (.iload_n 2, 1) := by decide +kernel
theorem dX3_readsBoth_67 : decode cX3_readsBoth 67 = .ok (.ireturn, 1) := by decide +kernel
theorem dX3_readsSingle_0 : decode cX3_readsSingle 0 = .ok (.aload_n 0, 1) := by decide +kernel
theorem dX3_readsSingle_1 : decode cX3_readsSingle 1 = .ok (.getfield 15, 3) := by decide +kernel
theorem dX3_readsSingle_4 : decode cX3_readsSingle 4 = .ok (.astore_n 2, 1) := by decide +kernel
theorem dX3_readsSingle_5 : decode cX3_readsSingle 5 = .ok (.getstatic 123, 3) := by decide +kernel
theorem dX3_readsSingle_8 : decode cX3_readsSingle 8 = .ok (.aload_n 2, 1) := by decide +kernel
theorem dX3_readsSingle_9 : decode cX3_readsSingle 9 = .ok (.invokevirtual 129, 3) := by decide +kernel
theorem dX3_readsSingle_12 : decode cX3_readsSingle 12 = .ok (.iaload, 1) := by decide +kernel
theorem dX3_readsSingle_13 : decode cX3_readsSingle 13 = .ok (.tableswitch 161 1 4 #[31, 80, 122, 122], 31) := by decide +kernel
theorem dX3_readsSingle_44 : decode cX3_readsSingle 44 = .ok (.iload_n 1, 1) := by decide +kernel
theorem dX3_readsSingle_45 : decode cX3_readsSingle 45 = .ok (.bipush 8, 2) := by decide +kernel
theorem dX3_readsSingle_47 : decode cX3_readsSingle 47 = .ok (.if_icmp .ge 44, 3) := by decide +kernel
theorem dX3_readsSingle_50 : decode cX3_readsSingle 50 = .ok (.aload_n 0, 1) := by decide +kernel
theorem dX3_readsSingle_51 : decode cX3_readsSingle 51 = .ok (.getstatic 133, 3) := by decide +kernel
theorem dX3_readsSingle_54 : decode cX3_readsSingle 54 = .ok (.invokevirtual 41, 3) := by decide +kernel
theorem dX3_readsSingle_57 : decode cX3_readsSingle 57 = .ok (.ifCond .eq 34, 3) := by decide +kernel
theorem dX3_readsSingle_60 : decode cX3_readsSingle 60 = .ok (.aload_n 0, 1) := by decide +kernel
theorem dX3_readsSingle_61 : decode cX3_readsSingle 61 = .ok (.iload_n 1, 1) := by decide +kernel
theorem dX3_readsSingle_62 : decode cX3_readsSingle 62 = .ok (.iconst 1, 1) := by decide +kernel
theorem dX3_readsSingle_63 : decode cX3_readsSingle 63 = .ok (.iadd, 1) := by decide +kernel
theorem dX3_readsSingle_64 : decode cX3_readsSingle 64 = .ok (.invokevirtual 117, 3) := by decide +kernel
theorem dX3_readsSingle_67 : decode cX3_readsSingle 67 = .ok (.ifCond .eq 24, 3) := by decide +kernel
theorem dX3_readsSingle_70 : decode cX3_readsSingle 70 = .ok (.aload_n 0, 1) := by decide +kernel
theorem dX3_readsSingle_71 : decode cX3_readsSingle 71 = .ok (.getfield 24, 3) := by decide +kernel
theorem dX3_readsSingle_74 : decode cX3_readsSingle 74 = .ok (.getstatic 133, 3) := by decide +kernel
theorem dX3_readsSingle_77 : decode cX3_readsSingle 77 = .ok (.aload_n 0, 1) := by decide +kernel
theorem dX3_readsSingle_78 : decode cX3_readsSingle 78 = .ok (.getfield 28, 3) := by decide +kernel
theorem dX3_readsSingle_81 : decode cX3_readsSingle 81 = .ok (.invokevirtual 113, 3) := by decide +kernel
theorem dX3_readsSingle_84 : decode cX3_readsSingle 84 = .ok (.ifCond .eq 7, 3) := by decide +kernel
theorem dX3_readsSingle_87 : decode cX3_readsSingle 87 = .ok (.iconst 1, 1) := by decide +kernel
theorem dX3_readsSingle_88 : decode cX3_readsSingle 88 = .ok (.goto 4, 3) := by decide +kernel
theorem dX3_readsSingle_91 : decode cX3_readsSingle 91 = .ok (.iconst 0, 1) := by decide +kernel
theorem dX3_readsSingle_92 : decode cX3_readsSingle 92 = .ok (.ireturn, 1) := by decide +kernel
theorem dX3_readsSingle_93 : decode cX3_readsSingle 93 = .ok (.iload_n 1, 1) := by decide +kernel
theorem dX3_readsSingle_94 : decode cX3_readsSingle 94 = .ok (.bipush 8, 2) := by decide +kernel
theorem dX3_readsSingle_96 : decode cX3_readsSingle 96 = .ok (.if_icmp .ge 37, 3) := by decide +kernel
theorem dX3_readsSingle_99 : decode cX3_readsSingle 99 = .ok (.aload_n 0, 1) := by decide +kernel
theorem dX3_readsSingle_100 : decode cX3_readsSingle 100 = .ok (.getstatic 136, 3) := by decide +kernel
theorem dX3_readsSingle_103 : decode cX3_readsSingle 103 = .ok (.invokevirtual 41, 3) := by decide +kernel
theorem dX3_readsSingle_106 : decode cX3_readsSingle 106 = .ok (.ifCond .eq 27, 3) := by decide +kernel
theorem dX3_readsSingle_109 : decode cX3_readsSingle 109 = .ok (.aload_n 0, 1) := by decide +kernel
theorem dX3_readsSingle_110 : decode cX3_readsSingle 110 = .ok (.iload_n 1, 1) := by decide +kernel
theorem dX3_readsSingle_111 : decode cX3_readsSingle 111 = .ok (.iconst 1, 1) := by decide +kernel
theorem dX3_readsSingle_112 : decode cX3_readsSingle 112 = .ok (.iadd, 1) := by decide +kernel
theorem dX3_readsSingle_113 : decode cX3_readsSingle 113 = .ok (.invokevirtual 101, 3) := by decide +kernel
theorem dX3_readsSingle_116 : decode cX3_readsSingle 116 = .ok (.ifCond .eq 17, 3) := by decide +kernel
theorem dX3_readsSingle_119 : decode cX3_readsSingle 119 = .ok (.aload_n 0, 1) := by decide +kernel
theorem dX3_readsSingle_120 : decode cX3_readsSingle 120 = .ok (.getstatic 139, 3) := by decide +kernel
theorem dX3_readsSingle_123 : decode cX3_readsSingle 123 = .ok (.invokevirtual 41, 3) := by decide +kernel
theorem dX3_readsSingle_126 : decode cX3_readsSingle 126 = .ok (.ifCond .eq 7, 3) := by decide +kernel
theorem dX3_readsSingle_129 : decode cX3_readsSingle 129 = .ok (.iconst 1, 1) := by decide +kernel
theorem dX3_readsSingle_130 : decode cX3_readsSingle 130 = .ok (.goto 4, 3) := by decide +kernel
theorem dX3_readsSingle_133 : decode cX3_readsSingle 133 = .ok (.iconst 0, 1) := by decide +kernel
theorem dX3_readsSingle_134 : decode cX3_readsSingle 134 = .ok (.ireturn, 1) := by decide +kernel
theorem dX3_readsSingle_135 : decode cX3_readsSingle 135 = .ok (.aload_n 0, 1) := by decide +kernel
theorem dX3_readsSingle_136 : decode cX3_readsSingle 136 = .ok (.aload_n 2, 1) := by decide +kernel
theorem dX3_readsSingle_137 : decode cX3_readsSingle 137 = .ok (.invokevirtual 41, 3) := by decide +kernel
theorem dX3_readsSingle_140 : decode cX3_readsSingle 140 = .ok (.ifCond .eq 32, 3) := by decide +kernel
theorem dX3_readsSingle_143 : decode cX3_readsSingle 143 = .ok (.aload_n 0, 1) := by decide +kernel
theorem dX3_readsSingle_144 : decode cX3_readsSingle 144 = .ok (.getfield 24, 3) := by decide +kernel
theorem dX3_readsSingle_147 : decode cX3_readsSingle 147 = .ok (.aload_n 2, 1) := by decide +kernel
theorem dX3_readsSingle_148 : decode cX3_readsSingle 148 = .ok (.aload_n 0, 1) := by decide +kernel
theorem dX3_readsSingle_149 : decode cX3_readsSingle 149 = .ok (.getfield 28, 3) := by decide +kernel
theorem dX3_readsSingle_152 : decode cX3_readsSingle 152 = .ok (.invokevirtual 113, 3) := by decide +kernel
theorem dX3_readsSingle_155 : decode cX3_readsSingle 155 = .ok (.ifCond .eq 17, 3) := by decide +kernel
theorem dX3_readsSingle_158 : decode cX3_readsSingle 158 = .ok (.aload_n 0, 1) := by decide +kernel
theorem dX3_readsSingle_159 : decode cX3_readsSingle 159 = .ok (.getstatic 64, 3) := by decide +kernel
theorem dX3_readsSingle_162 : decode cX3_readsSingle 162 = .ok (.invokevirtual 41, 3) := by decide +kernel
theorem dX3_readsSingle_165 : decode cX3_readsSingle 165 = .ok (.ifCond .eq 7, 3) := by decide +kernel
theorem dX3_readsSingle_168 : decode cX3_readsSingle 168 = .ok (.iconst 1, 1) := by decide +kernel
theorem dX3_readsSingle_169 : decode cX3_readsSingle 169 = .ok (.goto 4, 3) := by decide +kernel
theorem dX3_readsSingle_172 : decode cX3_readsSingle 172 = .ok (.iconst 0, 1) := by decide +kernel
theorem dX3_readsSingle_173 : decode cX3_readsSingle 173 = .ok (.ireturn, 1) := by decide +kernel
theorem dX3_readsSingle_174 : decode cX3_readsSingle 174 = .ok (.aload_n 0, 1) := by decide +kernel
theorem dX3_readsSingle_175 : decode cX3_readsSingle 175 = .ok (.iload_n 1, 1) := by decide +kernel
theorem dX3_readsSingle_176 : decode cX3_readsSingle 176 = .ok (.invokevirtual 85, 3) := by decide +kernel
theorem dX3_readsSingle_179 : decode cX3_readsSingle 179 = .ok (.ifCond .ne 5, 3) := by decide +kernel
theorem dX3_readsSingle_182 : decode cX3_readsSingle 182 = .ok (.iconst 0, 1) := by decide +kernel
theorem dX3_readsSingle_183 : decode cX3_readsSingle 183 = .ok (.ireturn, 1) := by decide +kernel
theorem dX3_readsSingle_184 : decode cX3_readsSingle 184 = .ok (.aload_n 0, 1) := by decide +kernel
theorem dX3_readsSingle_185 : decode cX3_readsSingle 185 = .ok (.getfield 15, 3) := by decide +kernel
theorem dX3_readsSingle_188 : decode cX3_readsSingle 188 = .ok (.astore_n 3, 1) := by decide +kernel
theorem dX3_readsSingle_189 : decode cX3_readsSingle 189 = .ok (.aload_n 0, 1) := by decide +kernel
theorem dX3_readsSingle_190 : decode cX3_readsSingle 190 = .ok (.getstatic 142, 3) := by decide +kernel
theorem dX3_readsSingle_193 : decode cX3_readsSingle 193 = .ok (.invokevirtual 41, 3) := by decide +kernel
theorem dX3_readsSingle_196 : decode cX3_readsSingle 196 = .ok (.ifCond .ne 43, 3) := by decide +kernel
theorem dX3_readsSingle_199 : decode cX3_readsSingle 199 = .ok (.aload_n 0, 1) := by decide +kernel
theorem dX3_readsSingle_200 : decode cX3_readsSingle 200 = .ok (.getstatic 145, 3) := by decide +kernel
theorem dX3_readsSingle_203 : decode cX3_readsSingle 203 = .ok (.invokevirtual 41, 3) := by decide +kernel
theorem dX3_readsSingle_206 : decode cX3_readsSingle 206 = .ok (.ifCond .ne 33, 3) := by decide +kernel
theorem dX3_readsSingle_209 : decode cX3_readsSingle 209 = .ok (.aload_n 0, 1) := by decide +kernel
theorem dX3_readsSingle_210 : decode cX3_readsSingle 210 = .ok (.getstatic 148, 3) := by decide +kernel
theorem dX3_readsSingle_213 : decode cX3_readsSingle 213 = .ok (.invokevirtual 41, 3) := by decide +kernel
theorem dX3_readsSingle_216 : decode cX3_readsSingle 216 = .ok (.ifCond .ne 23, 3) := by decide +kernel
theorem dX3_readsSingle_219 : decode cX3_readsSingle 219 = .ok (.aload_n 0, 1) := by decide +kernel
theorem dX3_readsSingle_220 : decode cX3_readsSingle 220 = .ok (.getstatic 151, 3) := by decide +kernel
theorem dX3_readsSingle_223 : decode cX3_readsSingle 223 = .ok (.invokevirtual 41, 3) := by decide +kernel
theorem dX3_readsSingle_226 : decode cX3_readsSingle 226 = .ok (.ifCond .ne 13, 3) := by decide +kernel
theorem dX3_readsSingle_229 : decode cX3_readsSingle 229 = .ok (.aload_n 0, 1) := by decide +kernel
theorem dX3_readsSingle_230 : decode cX3_readsSingle 230 = .ok (.getstatic 154, 3) := by decide +kernel
theorem dX3_readsSingle_233 : decode cX3_readsSingle 233 = .ok (.invokevirtual 41, 3) := by decide +kernel
theorem dX3_readsSingle_236 : decode cX3_readsSingle 236 = .ok (.ifCond .eq 30, 3) := by decide +kernel
theorem dX3_readsSingle_239 : decode cX3_readsSingle 239 = .ok (.aload_n 0, 1) := by decide +kernel
theorem dX3_readsSingle_240 : decode cX3_readsSingle 240 = .ok (.iload_n 1, 1) := by decide +kernel
theorem dX3_readsSingle_241 : decode cX3_readsSingle 241 = .ok (.invokevirtual 85, 3) := by decide +kernel
theorem dX3_readsSingle_244 : decode cX3_readsSingle 244 = .ok (.ifCond .eq 22, 3) := by decide +kernel
theorem dX3_readsSingle_247 : decode cX3_readsSingle 247 = .ok (.aload_n 0, 1) := by decide +kernel
theorem dX3_readsSingle_248 : decode cX3_readsSingle 248 = .ok (.getfield 24, 3) := by decide +kernel
theorem dX3_readsSingle_251 : decode cX3_readsSingle 251 = .ok (.aload_n 3, 1) := by decide +kernel
theorem dX3_readsSingle_252 : decode cX3_readsSingle 252 = .ok (.aload_n 0, 1) := by decide +kernel
theorem dX3_readsSingle_253 : decode cX3_readsSingle 253 = .ok (.getfield 28, 3) := by decide +kernel
theorem dX3_readsSingle_256 : decode cX3_readsSingle 256 = .ok (.invokevirtual 113, 3) := by decide +kernel
theorem dX3_readsSingle_259 : decode cX3_readsSingle 259 = .ok (.ifCond .eq 7, 3) := by decide +kernel
theorem dX3_readsSingle_262 : decode cX3_readsSingle 262 = .ok (.iconst 1, 1) := by decide +kernel
theorem dX3_readsSingle_263 : decode cX3_readsSingle 263 = .ok (.goto 4, 3) := by decide +kernel
theorem dX3_readsSingle_266 : decode cX3_readsSingle 266 = .ok (.iconst 0, 1) := by decide +kernel
theorem dX3_readsSingle_267 : decode cX3_readsSingle 267 = .ok (.ireturn, 1) := by decide +kernel
theorem dX3_readsSum_0 : decode cX3_readsSum 0 = .ok (.aload_n 0, 1) := by decide +kernel
theorem dX3_readsSum_1 : decode cX3_readsSum 1 = .ok (.iload_n 1, 1) := by decide +kernel
theorem dX3_readsSum_2 : decode cX3_readsSum 2 = .ok (.invokevirtual 157, 3) := by decide +kernel
theorem dX3_readsSum_5 : decode cX3_readsSum 5 = .ok (.istore_n 2, 1) := by decide +kernel
theorem dX3_readsSum_6 : decode cX3_readsSum 6 = .ok (.aload_n 0, 1) := by decide +kernel
theorem dX3_readsSum_7 : decode cX3_readsSum 7 = .ok (.getfield 15, 3) := by decide +kernel
theorem dX3_readsSum_10 : decode cX3_readsSum 10 = .ok (.astore_n 3, 1) := by decide +kernel
theorem dX3_readsSum_11 : decode cX3_readsSum 11 = .ok (.iconst 0, 1) := by decide +kernel
theorem dX3_readsSum_12 : decode cX3_readsSum 12 = .ok (.istore 4, 2) := by decide +kernel
theorem dX3_readsSum_14 : decode cX3_readsSum 14 = .ok (.iload 4, 2) := by decide +kernel
theorem dX3_readsSum_16 : decode cX3_readsSum 16 = .ok (.sipush 400, 3) := by decide +kernel
theorem dX3_readsSum_19 : decode cX3_readsSum 19 = .ok (.if_icmp .ge 67, 3) := by decide +kernel
theorem dX3_readsSum_22 : decode cX3_readsSum 22 = .ok (.iload_n 2, 1) := by decide +kernel
theorem dX3_readsSum_23 : decode cX3_readsSum 23 = .ok (.ifCond .eq 63, 3) := by decide +kernel
theorem dX3_readsSum_26 : decode cX3_readsSum 26 = .ok (.aload_n 0, 1) := by decide +kernel
theorem dX3_readsSum_27 : decode cX3_readsSum 27 = .ok (.getstatic 160, 3) := by decide +kernel
theorem dX3_readsSum_30 : decode cX3_readsSum 30 = .ok (.invokevirtual 41, 3) := by decide +kernel
theorem dX3_readsSum_33 : decode cX3_readsSum 33 = .ok (.ifCond .ne 13, 3) := by decide +kernel
theorem dX3_readsSum_36 : decode cX3_readsSum 36 = .ok (.aload_n 0, 1) := by decide +kernel
theorem dX3_readsSum_37 : decode cX3_readsSum 37 = .ok (.getstatic 163, 3) := by decide +kernel
theorem dX3_readsSum_40 : decode cX3_readsSum 40 = .ok (.invokevirtual 41, 3) := by decide +kernel
theorem dX3_readsSum_43 : decode cX3_readsSum 43 = .ok (.ifCond .eq 43, 3) := by decide +kernel
theorem dX3_readsSum_46 : decode cX3_readsSum 46 = .ok (.aload_n 0, 1) := by decide +kernel
theorem dX3_readsSum_47 : decode cX3_readsSum 47 = .ok (.iload_n 1, 1) := by decide +kernel
theorem dX3_readsSum_48 : decode cX3_readsSum 48 = .ok (.invokevirtual 157, 3) := by decide +kernel
theorem dX3_readsSum_51 : decode cX3_readsSum 51 = .ok (.ifCond .eq 22, 3) := by decide +kernel
theorem dX3_readsSum_54 : decode cX3_readsSum 54 = .ok (.aload_n 0, 1) := by decide +kernel
theorem dX3_readsSum_55 : decode cX3_readsSum 55 = .ok (.getfield 24, 3) := by decide +kernel
theorem dX3_readsSum_58 : decode cX3_readsSum 58 = .ok (.aload_n 3, 1) := by decide +kernel
theorem dX3_readsSum_59 : decode cX3_readsSum 59 = .ok (.aload_n 0, 1) := by decide +kernel
theorem dX3_readsSum_60 : decode cX3_readsSum 60 = .ok (.getfield 28, 3) := by decide +kernel
theorem dX3_readsSum_63 : decode cX3_readsSum 63 = .ok (.invokevirtual 113, 3) := by decide +kernel
theorem dX3_readsSum_66 : decode cX3_readsSum 66 = .ok (.ifCond .eq 7, 3) := by decide +kernel
theorem dX3_readsSum_69 : decode cX3_readsSum 69 = .ok (.iconst 1, 1) := by decide +kernel
theorem dX3_readsSum_70 : decode cX3_readsSum 70 = .ok (.goto 4, 3) := by decide +kernel
theorem dX3_readsSum_73 : decode cX3_readsSum 73 = .ok (.iconst 0, 1) := by decide +kernel
theorem dX3_readsSum_74 : decode cX3_readsSum 74 = .ok (.istore_n 2, 1) := by decide +kernel
theorem dX3_readsSum_75 : decode cX3_readsSum 75 = .ok (.aload_n 0, 1) := by decide +kernel
theorem dX3_readsSum_76 : decode cX3_readsSum 76 = .ok (.getfield 15, 3) := by decide +kernel
theorem dX3_readsSum_79 : decode cX3_readsSum 79 = .ok (.astore_n 3, 1) := by decide +kernel
theorem dX3_readsSum_80 : decode cX3_readsSum 80 = .ok (.iinc 4 1, 3) := by decide +kernel
theorem dX3_readsSum_83 : decode cX3_readsSum 83 = .ok (.goto (-69), 3) := by decide +kernel
theorem dX3_readsSum_86 : decode cX3_readsSum 86 = .ok (.iload_n 2, 1) := by decide +kernel
theorem dX3_readsSum_87 : decode cX3_readsSum 87 = .ok (.ireturn, 1) := by decide +kernel
theorem dX3_readsProduct_0 : decode cX3_readsProduct 0 = .ok (.aload_n 0, 1) := by decide +kernel
theorem dX3_readsProduct_1 : decode cX3_readsProduct 1 = .ok (.iload_n 1, 1) := by decide +kernel
theorem dX3_readsProduct_2 : decode cX3_readsProduct 2 = .ok (.invokevirtual 166, 3) := by decide +kernel
theorem dX3_readsProduct_5 : decode cX3_readsProduct 5 = .ok (.istore_n 2, 1) := by decide +kernel
theorem dX3_readsProduct_6 : decode cX3_readsProduct 6 = .ok (.aload_n 0, 1) := by decide +kernel
theorem dX3_readsProduct_7 : decode cX3_readsProduct 7 = .ok (.getfield 15, 3) := by decide +kernel
theorem dX3_readsProduct_10 : decode cX3_readsProduct 10 = .ok (.astore_n 3, 1) := by decide +kernel
theorem dX3_readsProduct_11 : decode cX3_readsProduct 11 = .ok (.iconst 0, 1) := by decide +kernel
theorem dX3_readsProduct_12 : decode cX3_readsProduct 12 = .ok (.istore 4, 2) := by decide +kernel
theorem dX3_readsProduct_14 : decode cX3_readsProduct 14 = .ok (.iload 4, 2) := by decide +kernel
theorem dX3_readsProduct_16 : decode cX3_readsProduct 16 = .ok (.sipush 400, 3) := by decide +kernel
theorem dX3_readsProduct_19 : decode cX3_readsProduct 19 = .ok (.if_icmp .ge 67, 3) := by decide +kernel
theorem dX3_readsProduct_22 : decode cX3_readsProduct 22 = .ok (.iload_n 2, 1) := by decide +kernel
theorem dX3_readsProduct_23 : decode cX3_readsProduct 23 = .ok (.ifCond .eq 63, 3) := by decide +kernel
theorem dX3_readsProduct_26 : decode cX3_readsProduct 26 = .ok (.aload_n 0, 1) := by decide +kernel
theorem dX3_readsProduct_27 : decode cX3_readsProduct 27 = .ok (.getstatic 169, 3) := by decide +kernel
theorem dX3_readsProduct_30 : decode cX3_readsProduct 30 = .ok (.invokevirtual 41, 3) := by decide +kernel
theorem dX3_readsProduct_33 : decode cX3_readsProduct 33 = .ok (.ifCond .ne 13, 3) := by decide +kernel
theorem dX3_readsProduct_36 : decode cX3_readsProduct 36 = .ok (.aload_n 0, 1) := by decide +kernel
theorem dX3_readsProduct_37 : decode cX3_readsProduct 37 = .ok (.getstatic 172, 3) := by decide +kernel
theorem dX3_readsProduct_40 : decode cX3_readsProduct 40 = .ok (.invokevirtual 41, 3) := by decide +kernel
theorem dX3_readsProduct_43 : decode cX3_readsProduct 43 = .ok (.ifCond .eq 43, 3) := by decide +kernel
theorem dX3_readsProduct_46 : decode cX3_readsProduct 46 = .ok (.aload_n 0, 1) := by decide +kernel
theorem dX3_readsProduct_47 : decode cX3_readsProduct 47 = .ok (.iload_n 1, 1) := by decide +kernel
theorem dX3_readsProduct_48 : decode cX3_readsProduct 48 = .ok (.invokevirtual 166, 3) := by decide +kernel
theorem dX3_readsProduct_51 : decode cX3_readsProduct 51 = .ok (.ifCond .eq 22, 3) := by decide +kernel
theorem dX3_readsProduct_54 : decode cX3_readsProduct 54 = .ok (.aload_n 0, 1) := by decide +kernel
theorem dX3_readsProduct_55 : decode cX3_readsProduct 55 = .ok (.getfield 24, 3) := by decide +kernel
theorem dX3_readsProduct_58 : decode cX3_readsProduct 58 = .ok (.aload_n 3, 1) := by decide +kernel
theorem dX3_readsProduct_59 : decode cX3_readsProduct 59 = .ok (.aload_n 0, 1) := by decide +kernel
theorem dX3_readsProduct_60 : decode cX3_readsProduct 60 = .ok (.getfield 28, 3) := by decide +kernel
theorem dX3_readsProduct_63 : decode cX3_readsProduct 63 = .ok (.invokevirtual 113, 3) := by decide +kernel
theorem dX3_readsProduct_66 : decode cX3_readsProduct 66 = .ok (.ifCond .eq 7, 3) := by decide +kernel
theorem dX3_readsProduct_69 : decode cX3_readsProduct 69 = .ok (.iconst 1, 1) := by decide +kernel
theorem dX3_readsProduct_70 : decode cX3_readsProduct 70 = .ok (.goto 4, 3) := by decide +kernel
theorem dX3_readsProduct_73 : decode cX3_readsProduct 73 = .ok (.iconst 0, 1) := by decide +kernel
theorem dX3_readsProduct_74 : decode cX3_readsProduct 74 = .ok (.istore_n 2, 1) := by decide +kernel
theorem dX3_readsProduct_75 : decode cX3_readsProduct 75 = .ok (.aload_n 0, 1) := by decide +kernel
theorem dX3_readsProduct_76 : decode cX3_readsProduct 76 = .ok (.getfield 15, 3) := by decide +kernel
theorem dX3_readsProduct_79 : decode cX3_readsProduct 79 = .ok (.astore_n 3, 1) := by decide +kernel
theorem dX3_readsProduct_80 : decode cX3_readsProduct 80 = .ok (.iinc 4 1, 3) := by decide +kernel
theorem dX3_readsProduct_83 : decode cX3_readsProduct 83 = .ok (.goto (-69), 3) := by decide +kernel
theorem dX3_readsProduct_86 : decode cX3_readsProduct 86 = .ok (.iload_n 2, 1) := by decide +kernel
theorem dX3_readsProduct_87 : decode cX3_readsProduct 87 = .ok (.ireturn, 1) := by decide +kernel
theorem dX3_readsValue_0 : decode cX3_readsValue 0 = .ok (.aload_n 0, 1) := by decide +kernel
theorem dX3_readsValue_1 : decode cX3_readsValue 1 = .ok (.getfield 15, 3) := by decide +kernel
theorem dX3_readsValue_4 : decode cX3_readsValue 4 = .ok (.astore_n 2, 1) := by decide +kernel
theorem dX3_readsValue_5 : decode cX3_readsValue 5 = .ok (.getstatic 123, 3) := by decide +kernel
theorem dX3_readsValue_8 : decode cX3_readsValue 8 = .ok (.aload_n 2, 1) := by decide +kernel
theorem dX3_readsValue_9 : decode cX3_readsValue 9 = .ok (.invokevirtual 129, 3) := by decide +kernel
theorem dX3_readsValue_12 : decode cX3_readsValue 12 = .ok (.iaload, 1) := by decide +kernel
theorem dX3_readsValue_13 : decode cX3_readsValue 13 = .ok (.tableswitch 321 5 16 #[63, 63, 63, 63, 63, 63, 63, 92, 145, 194, 236, 236], 63) := by decide +kernel
theorem dX3_readsValue_76 : decode cX3_readsValue 76 = .ok (.aload_n 0, 1) := by decide +kernel
theorem dX3_readsValue_77 : decode cX3_readsValue 77 = .ok (.getfield 24, 3) := by decide +kernel
theorem dX3_readsValue_80 : decode cX3_readsValue 80 = .ok (.aload_n 2, 1) := by decide +kernel
theorem dX3_readsValue_81 : decode cX3_readsValue 81 = .ok (.aload_n 0, 1) := by decide +kernel
theorem dX3_readsValue_82 : decode cX3_readsValue 82 = .ok (.getfield 28, 3) := by decide +kernel
theorem dX3_readsValue_85 : decode cX3_readsValue 85 = .ok (.invokevirtual 113, 3) := by decide +kernel
theorem dX3_readsValue_88 : decode cX3_readsValue 88 = .ok (.ifCond .eq 15, 3) := by decide +kernel
theorem dX3_readsValue_91 : decode cX3_readsValue 91 = .ok (.aload_n 0, 1) := by decide +kernel
theorem dX3_readsValue_92 : decode cX3_readsValue 92 = .ok (.aload_n 2, 1) := by decide +kernel
theorem dX3_readsValue_93 : decode cX3_readsValue 93 = .ok (.invokevirtual 41, 3) := by decide +kernel
theorem dX3_readsValue_96 : decode cX3_readsValue 96 = .ok (.ifCond .eq 7, 3) := by decide +kernel
theorem dX3_readsValue_99 : decode cX3_readsValue 99 = .ok (.iconst 1, 1) := by decide +kernel
theorem dX3_readsValue_100 : decode cX3_readsValue 100 = .ok (.goto 4, 3) := by decide +kernel
theorem dX3_readsValue_103 : decode cX3_readsValue 103 = .ok (.iconst 0, 1) := by decide +kernel
theorem dX3_readsValue_104 : decode cX3_readsValue 104 = .ok (.ireturn, 1) := by decide +kernel
theorem dX3_readsValue_105 : decode cX3_readsValue 105 = .ok (.aload_n 0, 1) := by decide +kernel
theorem dX3_readsValue_106 : decode cX3_readsValue 106 = .ok (.getstatic 175, 3) := by decide +kernel
theorem dX3_readsValue_109 : decode cX3_readsValue 109 = .ok (.invokevirtual 41, 3) := by decide +kernel
theorem dX3_readsValue_112 : decode cX3_readsValue 112 = .ok (.ifCond .eq 44, 3) := by decide +kernel
theorem dX3_readsValue_115 : decode cX3_readsValue 115 = .ok (.aload_n 0, 1) := by decide +kernel
theorem dX3_readsValue_116 : decode cX3_readsValue 116 = .ok (.getstatic 178, 3) := by decide +kernel
theorem dX3_readsValue_119 : decode cX3_readsValue 119 = .ok (.invokevirtual 41, 3) := by decide +kernel
theorem dX3_readsValue_122 : decode cX3_readsValue 122 = .ok (.ifCond .eq 34, 3) := by decide +kernel
theorem dX3_readsValue_125 : decode cX3_readsValue 125 = .ok (.aload_n 0, 1) := by decide +kernel
theorem dX3_readsValue_126 : decode cX3_readsValue 126 = .ok (.getfield 24, 3) := by decide +kernel
theorem dX3_readsValue_129 : decode cX3_readsValue 129 = .ok (.getstatic 175, 3) := by decide +kernel
theorem dX3_readsValue_132 : decode cX3_readsValue 132 = .ok (.aload_n 0, 1) := by decide +kernel
theorem dX3_readsValue_133 : decode cX3_readsValue 133 = .ok (.getfield 28, 3) := by decide +kernel
theorem dX3_readsValue_136 : decode cX3_readsValue 136 = .ok (.invokevirtual 113, 3) := by decide +kernel
theorem dX3_readsValue_139 : decode cX3_readsValue 139 = .ok (.ifCond .eq 17, 3) := by decide +kernel
theorem dX3_readsValue_142 : decode cX3_readsValue 142 = .ok (.aload_n 0, 1) := by decide +kernel
theorem dX3_readsValue_143 : decode cX3_readsValue 143 = .ok (.getstatic 64, 3) := by decide +kernel
theorem dX3_readsValue_146 : decode cX3_readsValue 146 = .ok (.invokevirtual 41, 3) := by decide +kernel
theorem dX3_readsValue_149 : decode cX3_readsValue 149 = .ok (.ifCond .eq 7, 3) := by decide +kernel
theorem dX3_readsValue_152 : decode cX3_readsValue 152 = .ok (.iconst 1, 1) := by decide +kernel
theorem dX3_readsValue_153 : decode cX3_readsValue 153 = .ok (.goto 4, 3) := by decide +kernel
theorem dX3_readsValue_156 : decode cX3_readsValue 156 = .ok (.iconst 0, 1) := by decide +kernel
theorem dX3_readsValue_157 : decode cX3_readsValue 157 = .ok (.ireturn, 1) := by decide +kernel
theorem dX3_readsValue_158 : decode cX3_readsValue 158 = .ok (.iload_n 1, 1) := by decide +kernel
theorem dX3_readsValue_159 : decode cX3_readsValue 159 = .ok (.bipush 8, 2) := by decide +kernel
theorem dX3_readsValue_161 : decode cX3_readsValue 161 = .ok (.if_icmp .ge 44, 3) := by decide +kernel
theorem dX3_readsValue_164 : decode cX3_readsValue 164 = .ok (.aload_n 0, 1) := by decide +kernel
theorem dX3_readsValue_165 : decode cX3_readsValue 165 = .ok (.getstatic 163, 3) := by decide +kernel
theorem dX3_readsValue_168 : decode cX3_readsValue 168 = .ok (.invokevirtual 41, 3) := by decide +kernel
theorem dX3_readsValue_171 : decode cX3_readsValue 171 = .ok (.ifCond .eq 34, 3) := by decide +kernel
theorem dX3_readsValue_174 : decode cX3_readsValue 174 = .ok (.aload_n 0, 1) := by decide +kernel
theorem dX3_readsValue_175 : decode cX3_readsValue 175 = .ok (.iload_n 1, 1) := by decide +kernel
theorem dX3_readsValue_176 : decode cX3_readsValue 176 = .ok (.iconst 1, 1) := by decide +kernel
theorem dX3_readsValue_177 : decode cX3_readsValue 177 = .ok (.iadd, 1) := by decide +kernel
theorem dX3_readsValue_178 : decode cX3_readsValue 178 = .ok (.invokevirtual 166, 3) := by decide +kernel
theorem dX3_readsValue_181 : decode cX3_readsValue 181 = .ok (.ifCond .eq 24, 3) := by decide +kernel
theorem dX3_readsValue_184 : decode cX3_readsValue 184 = .ok (.aload_n 0, 1) := by decide +kernel
theorem dX3_readsValue_185 : decode cX3_readsValue 185 = .ok (.getfield 24, 3) := by decide +kernel
theorem dX3_readsValue_188 : decode cX3_readsValue 188 = .ok (.getstatic 181, 3) := by decide +kernel
theorem dX3_readsValue_191 : decode cX3_readsValue 191 = .ok (.aload_n 0, 1) := by decide +kernel
theorem dX3_readsValue_192 : decode cX3_readsValue 192 = .ok (.getfield 28, 3) := by decide +kernel
theorem dX3_readsValue_195 : decode cX3_readsValue 195 = .ok (.invokevirtual 113, 3) := by decide +kernel
theorem dX3_readsValue_198 : decode cX3_readsValue 198 = .ok (.ifCond .eq 7, 3) := by decide +kernel
theorem dX3_readsValue_201 : decode cX3_readsValue 201 = .ok (.iconst 1, 1) := by decide +kernel
theorem dX3_readsValue_202 : decode cX3_readsValue 202 = .ok (.goto 4, 3) := by decide +kernel
theorem dX3_readsValue_205 : decode cX3_readsValue 205 = .ok (.iconst 0, 1) := by decide +kernel
theorem dX3_readsValue_206 : decode cX3_readsValue 206 = .ok (.ireturn, 1) := by decide +kernel
theorem dX3_readsValue_207 : decode cX3_readsValue 207 = .ok (.iload_n 1, 1) := by decide +kernel
theorem dX3_readsValue_208 : decode cX3_readsValue 208 = .ok (.bipush 8, 2) := by decide +kernel
theorem dX3_readsValue_210 : decode cX3_readsValue 210 = .ok (.if_icmp .ge 37, 3) := by decide +kernel
theorem dX3_readsValue_213 : decode cX3_readsValue 213 = .ok (.aload_n 0, 1) := by decide +kernel
theorem dX3_readsValue_214 : decode cX3_readsValue 214 = .ok (.getstatic 184, 3) := by decide +kernel
theorem dX3_readsValue_217 : decode cX3_readsValue 217 = .ok (.invokevirtual 41, 3) := by decide +kernel
theorem dX3_readsValue_220 : decode cX3_readsValue 220 = .ok (.ifCond .eq 27, 3) := by decide +kernel
theorem dX3_readsValue_223 : decode cX3_readsValue 223 = .ok (.aload_n 0, 1) := by decide +kernel
theorem dX3_readsValue_224 : decode cX3_readsValue 224 = .ok (.iload_n 1, 1) := by decide +kernel
theorem dX3_readsValue_225 : decode cX3_readsValue 225 = .ok (.iconst 1, 1) := by decide +kernel
theorem dX3_readsValue_226 : decode cX3_readsValue 226 = .ok (.iadd, 1) := by decide +kernel
theorem dX3_readsValue_227 : decode cX3_readsValue 227 = .ok (.invokevirtual 85, 3) := by decide +kernel
theorem dX3_readsValue_230 : decode cX3_readsValue 230 = .ok (.ifCond .eq 17, 3) := by decide +kernel
theorem dX3_readsValue_233 : decode cX3_readsValue 233 = .ok (.aload_n 0, 1) := by decide +kernel
theorem dX3_readsValue_234 : decode cX3_readsValue 234 = .ok (.getstatic 187, 3) := by decide +kernel
theorem dX3_readsValue_237 : decode cX3_readsValue 237 = .ok (.invokevirtual 41, 3) := by decide +kernel
theorem dX3_readsValue_240 : decode cX3_readsValue 240 = .ok (.ifCond .eq 7, 3) := by decide +kernel
theorem dX3_readsValue_243 : decode cX3_readsValue 243 = .ok (.iconst 1, 1) := by decide +kernel
theorem dX3_readsValue_244 : decode cX3_readsValue 244 = .ok (.goto 4, 3) := by decide +kernel
theorem dX3_readsValue_247 : decode cX3_readsValue 247 = .ok (.iconst 0, 1) := by decide +kernel
theorem dX3_readsValue_248 : decode cX3_readsValue 248 = .ok (.ireturn, 1) := by decide +kernel
theorem dX3_readsValue_249 : decode cX3_readsValue 249 = .ok (.aload_n 0, 1) := by decide +kernel
theorem dX3_readsValue_250 : decode cX3_readsValue 250 = .ok (.aload_n 2, 1) := by decide +kernel
theorem dX3_readsValue_251 : decode cX3_readsValue 251 = .ok (.invokevirtual 41, 3) := by decide +kernel
theorem dX3_readsValue_254 : decode cX3_readsValue 254 = .ok (.ifCond .eq 78, 3) := by decide +kernel
theorem dX3_readsValue_257 : decode cX3_readsValue 257 = .ok (.iload_n 1, 1) := by decide +kernel
theorem dX3_readsValue_258 : decode cX3_readsValue 258 = .ok (.bipush 8, 2) := by decide +kernel
theorem dX3_readsValue_260 : decode cX3_readsValue 260 = .ok (.if_icmp .ge 72, 3) := by decide +kernel
theorem dX3_readsValue_263 : decode cX3_readsValue 263 = .ok (.aload_n 0, 1) := by decide +kernel
theorem dX3_readsValue_264 : decode cX3_readsValue 264 = .ok (.getstatic 184, 3) := by decide +kernel
theorem dX3_readsValue_267 : decode cX3_readsValue 267 = .ok (.invokevirtual 41, 3) := by decide +kernel
theorem dX3_readsValue_270 : decode cX3_readsValue 270 = .ok (.ifCond .eq 62, 3) := by decide +kernel
theorem dX3_readsValue_273 : decode cX3_readsValue 273 = .ok (.aload_n 0, 1) := by decide +kernel
theorem dX3_readsValue_274 : decode cX3_readsValue 274 = .ok (.iload_n 1, 1) := by decide +kernel
theorem dX3_readsValue_275 : decode cX3_readsValue 275 = .ok (.iconst 1, 1) := by decide +kernel
theorem dX3_readsValue_276 : decode cX3_readsValue 276 = .ok (.iadd, 1) := by decide +kernel
theorem dX3_readsValue_277 : decode cX3_readsValue 277 = .ok (.invokevirtual 85, 3) := by decide +kernel
theorem dX3_readsValue_280 : decode cX3_readsValue 280 = .ok (.ifCond .eq 52, 3) := by decide +kernel
theorem dX3_readsValue_283 : decode cX3_readsValue 283 = .ok (.aload_n 0, 1) := by decide +kernel
theorem dX3_readsValue_284 : decode cX3_readsValue 284 = .ok (.getstatic 89, 3) := by decide +kernel
theorem dX3_readsValue_287 : decode cX3_readsValue 287 = .ok (.invokevirtual 41, 3) := by decide +kernel
theorem dX3_readsValue_290 : decode cX3_readsValue 290 = .ok (.ifCond .eq 42, 3) := by decide +kernel
theorem dX3_readsValue_293 : decode cX3_readsValue 293 = .ok (.aload_n 0, 1) := by decide +kernel
theorem dX3_readsValue_294 : decode cX3_readsValue 294 = .ok (.iload_n 1, 1) := by decide +kernel
theorem dX3_readsValue_295 : decode cX3_readsValue 295 = .ok (.iconst 1, 1) := by decide +kernel
theorem dX3_readsValue_296 : decode cX3_readsValue 296 = .ok (.iadd, 1) := by decide +kernel
theorem dX3_readsValue_297 : decode cX3_readsValue 297 = .ok (.invokevirtual 85, 3) := by decide +kernel
theorem dX3_readsValue_300 : decode cX3_readsValue 300 = .ok (.ifCond .eq 32, 3) := by decide +kernel
theorem dX3_readsValue_303 : decode cX3_readsValue 303 = .ok (.aload_n 0, 1) := by decide +kernel
theorem dX3_readsValue_304 : decode cX3_readsValue 304 = .ok (.getstatic 187, 3) := by decide +kernel
theorem dX3_readsValue_307 : decode cX3_readsValue 307 = .ok (.invokevirtual 41, 3) := by decide +kernel
theorem dX3_readsValue_310 : decode cX3_readsValue 310 = .ok (.ifCond .eq 22, 3) := by decide +kernel
theorem dX3_readsValue_313 : decode cX3_readsValue 313 = .ok (.aload_n 0, 1) := by decide +kernel
theorem dX3_readsValue_314 : decode cX3_readsValue 314 = .ok (.getfield 24, 3) := by decide +kernel
theorem dX3_readsValue_317 : decode cX3_readsValue 317 = .ok (.aload_n 2, 1) := by decide +kernel
theorem dX3_readsValue_318 : decode cX3_readsValue 318 = .ok (.aload_n 0, 1) := by decide +kernel
theorem dX3_readsValue_319 : decode cX3_readsValue 319 = .ok (.getfield 28, 3) := by decide +kernel
theorem dX3_readsValue_322 : decode cX3_readsValue 322 = .ok (.invokevirtual 113, 3) := by decide +kernel
theorem dX3_readsValue_325 : decode cX3_readsValue 325 = .ok (.ifCond .eq 7, 3) := by decide +kernel
theorem dX3_readsValue_328 : decode cX3_readsValue 328 = .ok (.iconst 1, 1) := by decide +kernel
theorem dX3_readsValue_329 : decode cX3_readsValue 329 = .ok (.goto 4, 3) := by decide +kernel
theorem dX3_readsValue_332 : decode cX3_readsValue 332 = .ok (.iconst 0, 1) := by decide +kernel
theorem dX3_readsValue_333 : decode cX3_readsValue 333 = .ok (.ireturn, 1) := by decide +kernel
theorem dX3_readsValue_334 : decode cX3_readsValue 334 = .ok (.iconst 0, 1) := by decide +kernel
theorem dX3_readsValue_335 : decode cX3_readsValue 335 = .ok (.ireturn, 1) := by decide +kernel
theorem dX3_accept_0 : decode cX3_accept 0 = .ok (.aload_n 0, 1) := by decide +kernel
theorem dX3_accept_1 : decode cX3_accept 1 = .ok (.getfield 15, 3) := by decide +kernel
theorem dX3_accept_4 : decode cX3_accept 4 = .ok (.aload_n 1, 1) := by decide +kernel
theorem dX3_accept_5 : decode cX3_accept 5 = .ok (.if_acmp .eq 5, 3) := by decide +kernel
theorem dX3_accept_8 : decode cX3_accept 8 = .ok (.iconst 0, 1) := by decide +kernel
theorem dX3_accept_9 : decode cX3_accept 9 = .ok (.ireturn, 1) := by decide +kernel
theorem dX3_accept_10 : decode cX3_accept 10 = .ok (.aload_n 0, 1) := by decide +kernel
theorem dX3_accept_11 : decode cX3_accept 11 = .ok (.dup, 1) := by decide +kernel
theorem dX3_accept_12 : decode cX3_accept 12 = .ok (.getfield 28, 3) := by decide +kernel
theorem dX3_accept_15 : decode cX3_accept 15 = .ok (.iconst 1, 1) := by decide +kernel
theorem dX3_accept_16 : decode cX3_accept 16 = .ok (.iadd, 1) := by decide +kernel
theorem dX3_accept_17 : decode cX3_accept 17 = .ok (.putfield 28, 3) := by decide +kernel
theorem dX3_accept_20 : decode cX3_accept 20 = .ok (.aload_n 0, 1) := by decide +kernel
theorem dX3_accept_21 : decode cX3_accept 21 = .ok (.aload_n 0, 1) := by decide +kernel
theorem dX3_accept_22 : decode cX3_accept 22 = .ok (.getfield 20, 3) := by decide +kernel
theorem dX3_accept_25 : decode cX3_accept 25 = .ok (.aload_n 0, 1) := by decide +kernel
theorem dX3_accept_26 : decode cX3_accept 26 = .ok (.getfield 28, 3) := by decide +kernel
theorem dX3_accept_29 : decode cX3_accept 29 = .ok (.invokevirtual 32, 3) := by decide +kernel
theorem dX3_accept_32 : decode cX3_accept 32 = .ok (.putfield 15, 3) := by decide +kernel
theorem dX3_accept_35 : decode cX3_accept 35 = .ok (.iconst 1, 1) := by decide +kernel
theorem dX3_accept_36 : decode cX3_accept 36 = .ok (.ireturn, 1) := by decide +kernel
theorem dX6_init_0 : decode cX6_init 0 = .ok (.aload_n 0, 1) := by decide +kernel
theorem dX6_init_1 : decode cX6_init 1 = .ok (.invokespecial 1, 3) := by decide +kernel
theorem dX6_init_4 : decode cX6_init 4 = .ok (.aload_n 0, 1) := by decide +kernel
theorem dX6_init_5 : decode cX6_init 5 = .ok (.getstatic 7, 3) := by decide +kernel
theorem dX6_init_8 : decode cX6_init 8 = .ok (.putfield 13, 3) := by decide +kernel
theorem dX6_init_11 : decode cX6_init 11 = .ok (.return_, 1) := by decide +kernel
theorem dX6_copy_0 : decode cX6_copy 0 = .ok (.aload_n 0, 1) := by decide +kernel
theorem dX6_copy_1 : decode cX6_copy 1 = .ok (.aload_n 1, 1) := by decide +kernel
theorem dX6_copy_2 : decode cX6_copy 2 = .ok (.getfield 13, 3) := by decide +kernel
theorem dX6_copy_5 : decode cX6_copy 5 = .ok (.putfield 13, 3) := by decide +kernel
theorem dX6_copy_8 : decode cX6_copy 8 = .ok (.aload_n 0, 1) := by decide +kernel
theorem dX6_copy_9 : decode cX6_copy 9 = .ok (.aload_n 1, 1) := by decide +kernel
theorem dX6_copy_10 : decode cX6_copy 10 = .ok (.getfield 18, 3) := by decide +kernel
theorem dX6_copy_13 : decode cX6_copy 13 = .ok (.putfield 18, 3) := by decide +kernel
theorem dX6_copy_16 : decode cX6_copy 16 = .ok (.aload_n 0, 1) := by decide +kernel
theorem dX6_copy_17 : decode cX6_copy 17 = .ok (.aload_n 1, 1) := by decide +kernel
theorem dX6_copy_18 : decode cX6_copy 18 = .ok (.getfield 22, 3) := by decide +kernel
theorem dX6_copy_21 : decode cX6_copy 21 = .ok (.putfield 22, 3) := by decide +kernel
theorem dX6_copy_24 : decode cX6_copy 24 = .ok (.aload_n 0, 1) := by decide +kernel
theorem dX6_copy_25 : decode cX6_copy 25 = .ok (.aload_n 1, 1) := by decide +kernel
theorem dX6_copy_26 : decode cX6_copy 26 = .ok (.getfield 25, 3) := by decide +kernel
theorem dX6_copy_29 : decode cX6_copy 29 = .ok (.putfield 25, 3) := by decide +kernel
theorem dX6_copy_32 : decode cX6_copy 32 = .ok (.aload_n 0, 1) := by decide +kernel
theorem dX6_copy_33 : decode cX6_copy 33 = .ok (.aload_n 1, 1) := by decide +kernel
theorem dX6_copy_34 : decode cX6_copy 34 = .ok (.getfield 28, 3) := by decide +kernel
theorem dX6_copy_37 : decode cX6_copy 37 = .ok (.putfield 28, 3) := by decide +kernel
theorem dX6_copy_40 : decode cX6_copy 40 = .ok (.return_, 1) := by decide +kernel
theorem dX7_init_0 : decode cX7_init 0 = .ok (.aload_n 0, 1) := by decide +kernel
theorem dX7_init_1 : decode cX7_init 1 = .ok (.invokespecial 3, 3) := by decide +kernel
theorem dX7_init_4 : decode cX7_init 4 = .ok (.aload_n 0, 1) := by decide +kernel
theorem dX7_init_5 : decode cX7_init 5 = .ok (.iconst 5, 1) := by decide +kernel
theorem dX7_init_6 : decode cX7_init 6 = .ok (.putfield 11, 3) := by decide +kernel
theorem dX7_init_9 : decode cX7_init 9 = .ok (.aload_n 0, 1) := by decide +kernel
theorem dX7_init_10 : decode cX7_init 10 = .ok (.iconst 5, 1) := by decide +kernel
theorem dX7_init_11 : decode cX7_init 11 = .ok (.putfield 15, 3) := by decide +kernel
theorem dX7_init_14 : decode cX7_init 14 = .ok (.aload_n 0, 1) := by decide +kernel
theorem dX7_init_15 : decode cX7_init 15 = .ok (.bipush 48, 2) := by decide +kernel
theorem dX7_init_17 : decode cX7_init 17 = .ok (.newarray .int, 2) := by decide +kernel
theorem dX7_init_19 : decode cX7_init 19 = .ok (.putfield 18, 3) := by decide +kernel
theorem dX7_init_22 : decode cX7_init 22 = .ok (.aload_n 0, 1) := by decide +kernel
theorem dX7_init_23 : decode cX7_init 23 = .ok (.bipush 16, 2) := by decide +kernel
theorem dX7_init_25 : decode cX7_init 25 = .ok (.anewarray 22, 3) := by decide +kernel
theorem dX7_init_28 : decode cX7_init 28 = .ok (.putfield 24, 3) := by decide +kernel
theorem dX7_init_31 : decode cX7_init 31 = .ok (.aload_n 0, 1) := by decide +kernel
theorem dX7_init_32 : decode cX7_init 32 = .ok (.sipush 400, 3) := by decide +kernel
theorem dX7_init_35 : decode cX7_init 35 = .ok (.anewarray 28, 3) := by decide +kernel
theorem dX7_init_38 : decode cX7_init 38 = .ok (.putfield 30, 3) := by decide +kernel
theorem dX7_init_41 : decode cX7_init 41 = .ok (.aload_n 0, 1) := by decide +kernel
theorem dX7_init_42 : decode cX7_init 42 = .ok (.sipush 400, 3) := by decide +kernel
theorem dX7_init_45 : decode cX7_init 45 = .ok (.newarray .int, 2) := by decide +kernel
theorem dX7_init_47 : decode cX7_init 47 = .ok (.putfield 34, 3) := by decide +kernel
theorem dX7_init_50 : decode cX7_init 50 = .ok (.iconst 0, 1) := by decide +kernel
theorem dX7_init_51 : decode cX7_init 51 = .ok (.istore_n 1, 1) := by decide +kernel
theorem dX7_init_52 : decode cX7_init 52 = .ok (.iload_n 1, 1) := by decide +kernel
theorem dX7_init_53 : decode cX7_init 53 = .ok (.aload_n 0, 1) := by decide +kernel
theorem dX7_init_54 : decode cX7_init 54 = .ok (.getfield 24, 3) := by decide +kernel
theorem dX7_init_57 : decode cX7_init 57 = .ok (.arraylength, 1) := by decide +kernel
theorem dX7_init_58 : decode cX7_init 58 = .ok (.if_icmp .ge 22, 3) := by decide +kernel
theorem dX7_init_61 : decode cX7_init 61 = .ok (.aload_n 0, 1) := by decide +kernel
theorem dX7_init_62 : decode cX7_init 62 = .ok (.getfield 24, 3) := by decide +kernel
theorem dX7_init_65 : decode cX7_init 65 = .ok (.iload_n 1, 1) := by decide +kernel
theorem dX7_init_66 : decode cX7_init 66 = .ok (.new 22, 3) := by decide +kernel
theorem dX7_init_69 : decode cX7_init 69 = .ok (.dup, 1) := by decide +kernel
theorem dX7_init_70 : decode cX7_init 70 = .ok (.invokespecial 37, 3) := by decide +kernel
theorem dX7_init_73 : decode cX7_init 73 = .ok (.aastore, 1) := by decide +kernel
theorem dX7_init_74 : decode cX7_init 74 = .ok (.iinc 1 1, 3) := by decide +kernel
theorem dX7_init_77 : decode cX7_init 77 = .ok (.goto (-25), 3) := by decide +kernel
theorem dX7_init_80 : decode cX7_init 80 = .ok (.return_, 1) := by decide +kernel
theorem dX7_clear_0 : decode cX7_clear 0 = .ok (.aload_n 0, 1) := by decide +kernel
theorem dX7_clear_1 : decode cX7_clear 1 = .ok (.iconst 5, 1) := by decide +kernel
theorem dX7_clear_2 : decode cX7_clear 2 = .ok (.putfield 11, 3) := by decide +kernel
theorem dX7_clear_5 : decode cX7_clear 5 = .ok (.aload_n 0, 1) := by decide +kernel
theorem dX7_clear_6 : decode cX7_clear 6 = .ok (.iconst 5, 1) := by decide +kernel
theorem dX7_clear_7 : decode cX7_clear 7 = .ok (.putfield 15, 3) := by decide +kernel
theorem dX7_clear_10 : decode cX7_clear 10 = .ok (.aload_n 0, 1) := by decide +kernel
theorem dX7_clear_11 : decode cX7_clear 11 = .ok (.iconst 0, 1) := by decide +kernel
theorem dX7_clear_12 : decode cX7_clear 12 = .ok (.putfield 38, 3) := by decide +kernel
theorem dX7_clear_15 : decode cX7_clear 15 = .ok (.aload_n 0, 1) := by decide +kernel
theorem dX7_clear_16 : decode cX7_clear 16 = .ok (.iconst 0, 1) := by decide +kernel
theorem dX7_clear_17 : decode cX7_clear 17 = .ok (.putfield 41, 3) := by decide +kernel
theorem dX7_clear_20 : decode cX7_clear 20 = .ok (.aload_n 0, 1) := by decide +kernel
theorem dX7_clear_21 : decode cX7_clear 21 = .ok (.iconst 0, 1) := by decide +kernel
theorem dX7_clear_22 : decode cX7_clear 22 = .ok (.putfield 44, 3) := by decide +kernel
theorem dX7_clear_25 : decode cX7_clear 25 = .ok (.aload_n 0, 1) := by decide +kernel
theorem dX7_clear_26 : decode cX7_clear 26 = .ok (.iconst 0, 1) := by decide +kernel
theorem dX7_clear_27 : decode cX7_clear 27 = .ok (.putfield 47, 3) := by decide +kernel
theorem dX7_clear_30 : decode cX7_clear 30 = .ok (.return_, 1) := by decide +kernel
theorem dX7_addSide_0 : decode cX7_addSide 0 = .ok (.aload_n 0, 1) := by decide +kernel
theorem dX7_addSide_1 : decode cX7_addSide 1 = .ok (.getfield 38, 3) := by decide +kernel
theorem dX7_addSide_4 : decode cX7_addSide 4 = .ok (.ifCond .ne 11, 3) := by decide +kernel
theorem dX7_addSide_7 : decode cX7_addSide 7 = .ok (.aload_n 0, 1) := by decide +kernel
theorem dX7_addSide_8 : decode cX7_addSide 8 = .ok (.iload_n 1, 1) := by decide +kernel
theorem dX7_addSide_9 : decode cX7_addSide 9 = .ok (.putfield 11, 3) := by decide +kernel
theorem dX7_addSide_12 : decode cX7_addSide 12 = .ok (.goto 8, 3) := by decide +kernel
theorem dX7_addSide_15 : decode cX7_addSide 15 = .ok (.aload_n 0, 1) := by decide +kernel
theorem dX7_addSide_16 : decode cX7_addSide 16 = .ok (.iload_n 1, 1) := by decide +kernel
theorem dX7_addSide_17 : decode cX7_addSide 17 = .ok (.putfield 15, 3) := by decide +kernel
theorem dX7_addSide_20 : decode cX7_addSide 20 = .ok (.aload_n 0, 1) := by decide +kernel
theorem dX7_addSide_21 : decode cX7_addSide 21 = .ok (.dup, 1) := by decide +kernel
theorem dX7_addSide_22 : decode cX7_addSide 22 = .ok (.getfield 38, 3) := by decide +kernel
theorem dX7_addSide_25 : decode cX7_addSide 25 = .ok (.iconst 1, 1) := by decide +kernel
theorem dX7_addSide_26 : decode cX7_addSide 26 = .ok (.iadd, 1) := by decide +kernel
theorem dX7_addSide_27 : decode cX7_addSide 27 = .ok (.putfield 38, 3) := by decide +kernel
theorem dX7_addSide_30 : decode cX7_addSide 30 = .ok (.return_, 1) := by decide +kernel
theorem dX7_addTileNumber_0 : decode cX7_addTileNumber 0 = .ok (.aload_n 0, 1) := by decide +kernel
theorem dX7_addTileNumber_1 : decode cX7_addTileNumber 1 = .ok (.getfield 41, 3) := by decide +kernel
theorem dX7_addTileNumber_4 : decode cX7_addTileNumber 4 = .ok (.aload_n 0, 1) := by decide +kernel
theorem dX7_addTileNumber_5 : decode cX7_addTileNumber 5 = .ok (.getfield 18, 3) := by decide +kernel
theorem dX7_addTileNumber_8 : decode cX7_addTileNumber 8 = .ok (.arraylength, 1) := by decide +kernel
theorem dX7_addTileNumber_9 : decode cX7_addTileNumber 9 = .ok (.if_icmp .ge 23, 3) := by decide +kernel
theorem dX7_addTileNumber_12 : decode cX7_addTileNumber 12 = .ok (.aload_n 0, 1) := by decide +kernel
theorem dX7_addTileNumber_13 : decode cX7_addTileNumber 13 = .ok (.getfield 18, 3) := by decide +kernel
theorem dX7_addTileNumber_16 : decode cX7_addTileNumber 16 = .ok (.aload_n 0, 1) := by decide +kernel
theorem dX7_addTileNumber_17 : decode cX7_addTileNumber 17 = .ok (.getfield 41, 3) := by decide +kernel
theorem dX7_addTileNumber_20 : decode cX7_addTileNumber 20 = .ok (.iload_n 1, 1) := by decide +kernel
theorem dX7_addTileNumber_21 : decode cX7_addTileNumber 21 = .ok (.iastore, 1) := by decide +kernel
theorem dX7_addTileNumber_22 : decode cX7_addTileNumber 22 = .ok (.aload_n 0, 1) := by decide +kernel
theorem dX7_addTileNumber_23 : decode cX7_addTileNumber 23 = .ok (.dup, 1) := by decide +kernel
theorem dX7_addTileNumber_24 : decode cX7_addTileNumber 24 = .ok (.getfield 41, 3) := by decide +kernel
theorem dX7_addTileNumber_27 : decode cX7_addTileNumber 27 = .ok (.iconst 1, 1) := by decide +kernel
theorem dX7_addTileNumber_28 : decode cX7_addTileNumber 28 = .ok (.iadd, 1) := by decide +kernel
theorem dX7_addTileNumber_29 : decode cX7_addTileNumber 29 = .ok (.putfield 41, 3) := by decide +kernel
theorem dX7_addTileNumber_32 : decode cX7_addTileNumber 32 = .ok (.return_, 1) := by decide +kernel
theorem dX7_tileCount_0 : decode cX7_tileCount 0 = .ok (.aload_n 0, 1) := by decide +kernel
theorem dX7_tileCount_1 : decode cX7_tileCount 1 = .ok (.getfield 41, 3) := by decide +kernel
theorem dX7_tileCount_4 : decode cX7_tileCount 4 = .ok (.iconst 3, 1) := by decide +kernel
theorem dX7_tileCount_5 : decode cX7_tileCount 5 = .ok (.idiv, 1) := by decide +kernel
theorem dX7_tileCount_6 : decode cX7_tileCount 6 = .ok (.ireturn, 1) := by decide +kernel
theorem dX7_tileNumber_0 : decode cX7_tileNumber 0 = .ok (.iload_n 1, 1) := by decide +kernel
theorem dX7_tileNumber_1 : decode cX7_tileNumber 1 = .ok (.ifCond .lt 20, 3) := by decide +kernel
theorem dX7_tileNumber_4 : decode cX7_tileNumber 4 = .ok (.iload_n 1, 1) := by decide +kernel
theorem dX7_tileNumber_5 : decode cX7_tileNumber 5 = .ok (.aload_n 0, 1) := by decide +kernel
theorem dX7_tileNumber_6 : decode cX7_tileNumber 6 = .ok (.getfield 41, 3) := by decide +kernel
theorem dX7_tileNumber_9 : decode cX7_tileNumber 9 = .ok (.if_icmp .ge 12, 3) := by decide +kernel
theorem dX7_tileNumber_12 : decode cX7_tileNumber 12 = .ok (.aload_n 0, 1) := by decide +kernel
theorem dX7_tileNumber_13 : decode cX7_tileNumber 13 = .ok (.getfield 18, 3) := by decide +kernel
theorem dX7_tileNumber_16 : decode cX7_tileNumber 16 = .ok (.iload_n 1, 1) := by decide +kernel
theorem dX7_tileNumber_17 : decode cX7_tileNumber 17 = .ok (.iaload, 1) := by decide +kernel
theorem dX7_tileNumber_18 : decode cX7_tileNumber 18 = .ok (.goto 4, 3) := by decide +kernel
theorem dX7_tileNumber_21 : decode cX7_tileNumber 21 = .ok (.iconst 0, 1) := by decide +kernel
theorem dX7_tileNumber_22 : decode cX7_tileNumber 22 = .ok (.ireturn, 1) := by decide +kernel
theorem dX7_beginOrder_0 : decode cX7_beginOrder 0 = .ok (.aload_n 0, 1) := by decide +kernel
theorem dX7_beginOrder_1 : decode cX7_beginOrder 1 = .ok (.getfield 44, 3) := by decide +kernel
theorem dX7_beginOrder_4 : decode cX7_beginOrder 4 = .ok (.aload_n 0, 1) := by decide +kernel
theorem dX7_beginOrder_5 : decode cX7_beginOrder 5 = .ok (.getfield 24, 3) := by decide +kernel
theorem dX7_beginOrder_8 : decode cX7_beginOrder 8 = .ok (.arraylength, 1) := by decide +kernel
theorem dX7_beginOrder_9 : decode cX7_beginOrder 9 = .ok (.if_icmp .ge 31, 3) := by decide +kernel
theorem dX7_beginOrder_12 : decode cX7_beginOrder 12 = .ok (.aload_n 0, 1) := by decide +kernel
theorem dX7_beginOrder_13 : decode cX7_beginOrder 13 = .ok (.getfield 24, 3) := by decide +kernel
theorem dX7_beginOrder_16 : decode cX7_beginOrder 16 = .ok (.aload_n 0, 1) := by decide +kernel
theorem dX7_beginOrder_17 : decode cX7_beginOrder 17 = .ok (.getfield 44, 3) := by decide +kernel
theorem dX7_beginOrder_20 : decode cX7_beginOrder 20 = .ok (.aaload, 1) := by decide +kernel
theorem dX7_beginOrder_21 : decode cX7_beginOrder 21 = .ok (.astore_n 3, 1) := by decide +kernel
theorem dX7_beginOrder_22 : decode cX7_beginOrder 22 = .ok (.aload_n 3, 1) := by decide +kernel
theorem dX7_beginOrder_23 : decode cX7_beginOrder 23 = .ok (.aload_n 1, 1) := by decide +kernel
theorem dX7_beginOrder_24 : decode cX7_beginOrder 24 = .ok (.putfield 50, 3) := by decide +kernel
theorem dX7_beginOrder_27 : decode cX7_beginOrder 27 = .ok (.aload_n 3, 1) := by decide +kernel
theorem dX7_beginOrder_28 : decode cX7_beginOrder 28 = .ok (.iload_n 2, 1) := by decide +kernel
theorem dX7_beginOrder_29 : decode cX7_beginOrder 29 = .ok (.putfield 54, 3) := by decide +kernel
theorem dX7_beginOrder_32 : decode cX7_beginOrder 32 = .ok (.aload_n 3, 1) := by decide +kernel
theorem dX7_beginOrder_33 : decode cX7_beginOrder 33 = .ok (.aload_n 0, 1) := by decide +kernel
theorem dX7_beginOrder_34 : decode cX7_beginOrder 34 = .ok (.getfield 47, 3) := by decide +kernel
theorem dX7_beginOrder_37 : decode cX7_beginOrder 37 = .ok (.putfield 57, 3) := by decide +kernel
theorem dX7_beginOrder_40 : decode cX7_beginOrder 40 = .ok (.return_, 1) := by decide +kernel
theorem dX7_beginTest_0 : decode cX7_beginTest 0 = .ok (.aload_n 0, 1) := by decide +kernel
theorem dX7_beginTest_1 : decode cX7_beginTest 1 = .ok (.getfield 44, 3) := by decide +kernel
theorem dX7_beginTest_4 : decode cX7_beginTest 4 = .ok (.aload_n 0, 1) := by decide +kernel
theorem dX7_beginTest_5 : decode cX7_beginTest 5 = .ok (.getfield 24, 3) := by decide +kernel
theorem dX7_beginTest_8 : decode cX7_beginTest 8 = .ok (.arraylength, 1) := by decide +kernel
theorem dX7_beginTest_9 : decode cX7_beginTest 9 = .ok (.if_icmp .ge 19, 3) := by decide +kernel
theorem dX7_beginTest_12 : decode cX7_beginTest 12 = .ok (.aload_n 0, 1) := by decide +kernel
theorem dX7_beginTest_13 : decode cX7_beginTest 13 = .ok (.getfield 24, 3) := by decide +kernel
theorem dX7_beginTest_16 : decode cX7_beginTest 16 = .ok (.aload_n 0, 1) := by decide +kernel
theorem dX7_beginTest_17 : decode cX7_beginTest 17 = .ok (.getfield 44, 3) := by decide +kernel
theorem dX7_beginTest_20 : decode cX7_beginTest 20 = .ok (.aaload, 1) := by decide +kernel
theorem dX7_beginTest_21 : decode cX7_beginTest 21 = .ok (.aload_n 0, 1) := by decide +kernel
theorem dX7_beginTest_22 : decode cX7_beginTest 22 = .ok (.getfield 47, 3) := by decide +kernel
theorem dX7_beginTest_25 : decode cX7_beginTest 25 = .ok (.putfield 60, 3) := by decide +kernel
theorem dX7_beginTest_28 : decode cX7_beginTest 28 = .ok (.return_, 1) := by decide +kernel
theorem dX7_endOrder_0 : decode cX7_endOrder 0 = .ok (.aload_n 0, 1) := by decide +kernel
theorem dX7_endOrder_1 : decode cX7_endOrder 1 = .ok (.getfield 44, 3) := by decide +kernel
theorem dX7_endOrder_4 : decode cX7_endOrder 4 = .ok (.aload_n 0, 1) := by decide +kernel
theorem dX7_endOrder_5 : decode cX7_endOrder 5 = .ok (.getfield 24, 3) := by decide +kernel
theorem dX7_endOrder_8 : decode cX7_endOrder 8 = .ok (.arraylength, 1) := by decide +kernel
theorem dX7_endOrder_9 : decode cX7_endOrder 9 = .ok (.if_icmp .ge 29, 3) := by decide +kernel
theorem dX7_endOrder_12 : decode cX7_endOrder 12 = .ok (.aload_n 0, 1) := by decide +kernel
theorem dX7_endOrder_13 : decode cX7_endOrder 13 = .ok (.getfield 24, 3) := by decide +kernel
theorem dX7_endOrder_16 : decode cX7_endOrder 16 = .ok (.aload_n 0, 1) := by decide +kernel
theorem dX7_endOrder_17 : decode cX7_endOrder 17 = .ok (.getfield 44, 3) := by decide +kernel
theorem dX7_endOrder_20 : decode cX7_endOrder 20 = .ok (.aaload, 1) := by decide +kernel
theorem dX7_endOrder_21 : decode cX7_endOrder 21 = .ok (.aload_n 0, 1) := by decide +kernel
theorem dX7_endOrder_22 : decode cX7_endOrder 22 = .ok (.getfield 47, 3) := by decide +kernel
theorem dX7_endOrder_25 : decode cX7_endOrder 25 = .ok (.putfield 63, 3) := by decide +kernel
theorem dX7_endOrder_28 : decode cX7_endOrder 28 = .ok (.aload_n 0, 1) := by decide +kernel
theorem dX7_endOrder_29 : decode cX7_endOrder 29 = .ok (.dup, 1) := by decide +kernel
theorem dX7_endOrder_30 : decode cX7_endOrder 30 = .ok (.getfield 44, 3) := by decide +kernel
theorem dX7_endOrder_33 : decode cX7_endOrder 33 = .ok (.iconst 1, 1) := by decide +kernel
theorem dX7_endOrder_34 : decode cX7_endOrder 34 = .ok (.iadd, 1) := by decide +kernel
theorem dX7_endOrder_35 : decode cX7_endOrder 35 = .ok (.putfield 44, 3) := by decide +kernel
theorem dX7_endOrder_38 : decode cX7_endOrder 38 = .ok (.return_, 1) := by decide +kernel
theorem dX7_add_0 : decode cX7_add 0 = .ok (.aload_n 0, 1) := by decide +kernel
theorem dX7_add_1 : decode cX7_add 1 = .ok (.getfield 47, 3) := by decide +kernel
theorem dX7_add_4 : decode cX7_add 4 = .ok (.aload_n 0, 1) := by decide +kernel
theorem dX7_add_5 : decode cX7_add 5 = .ok (.getfield 30, 3) := by decide +kernel
theorem dX7_add_8 : decode cX7_add 8 = .ok (.arraylength, 1) := by decide +kernel
theorem dX7_add_9 : decode cX7_add 9 = .ok (.if_icmp .lt 5, 3) := by decide +kernel
theorem dX7_add_12 : decode cX7_add 12 = .ok (.iconst 0, 1) := by decide +kernel
theorem dX7_add_13 : decode cX7_add 13 = .ok (.ireturn, 1) := by decide +kernel
theorem dX7_add_14 : decode cX7_add 14 = .ok (.aload_n 0, 1) := by decide +kernel
theorem dX7_add_15 : decode cX7_add 15 = .ok (.getfield 30, 3) := by decide +kernel
theorem dX7_add_18 : decode cX7_add 18 = .ok (.aload_n 0, 1) := by decide +kernel
theorem dX7_add_19 : decode cX7_add 19 = .ok (.getfield 47, 3) := by decide +kernel
theorem dX7_add_22 : decode cX7_add 22 = .ok (.aload_n 1, 1) := by decide +kernel
theorem dX7_add_23 : decode cX7_add 23 = .ok (.aastore, 1) := by decide +kernel
theorem dX7_add_24 : decode cX7_add 24 = .ok (.aload_n 0, 1) := by decide +kernel
theorem dX7_add_25 : decode cX7_add 25 = .ok (.getfield 34, 3) := by decide +kernel
theorem dX7_add_28 : decode cX7_add 28 = .ok (.aload_n 0, 1) := by decide +kernel
theorem dX7_add_29 : decode cX7_add 29 = .ok (.getfield 47, 3) := by decide +kernel
theorem dX7_add_32 : decode cX7_add 32 = .ok (.iload_n 2, 1) := by decide +kernel
theorem dX7_add_33 : decode cX7_add 33 = .ok (.iastore, 1) := by decide +kernel
theorem dX7_add_34 : decode cX7_add 34 = .ok (.aload_n 0, 1) := by decide +kernel
theorem dX7_add_35 : decode cX7_add 35 = .ok (.dup, 1) := by decide +kernel
theorem dX7_add_36 : decode cX7_add 36 = .ok (.getfield 47, 3) := by decide +kernel
theorem dX7_add_39 : decode cX7_add 39 = .ok (.iconst 1, 1) := by decide +kernel
theorem dX7_add_40 : decode cX7_add 40 = .ok (.iadd, 1) := by decide +kernel
theorem dX7_add_41 : decode cX7_add 41 = .ok (.putfield 47, 3) := by decide +kernel
theorem dX7_add_44 : decode cX7_add 44 = .ok (.iconst 1, 1) := by decide +kernel
theorem dX7_add_45 : decode cX7_add 45 = .ok (.ireturn, 1) := by decide +kernel
theorem dX7_resolve_0 : decode cX7_resolve 0 = .ok (.iconst 0, 1) := by decide +kernel
theorem dX7_resolve_1 : decode cX7_resolve 1 = .ok (.istore_n 2, 1) := by decide +kernel
theorem dX7_resolve_2 : decode cX7_resolve 2 = .ok (.iload_n 2, 1) := by decide +kernel
theorem dX7_resolve_3 : decode cX7_resolve 3 = .ok (.aload_n 0, 1) := by decide +kernel
theorem dX7_resolve_4 : decode cX7_resolve 4 = .ok (.getfield 47, 3) := by decide +kernel
theorem dX7_resolve_7 : decode cX7_resolve 7 = .ok (.if_icmp .ge 25, 3) := by decide +kernel
theorem dX7_resolve_10 : decode cX7_resolve 10 = .ok (.aload_n 0, 1) := by decide +kernel
theorem dX7_resolve_11 : decode cX7_resolve 11 = .ok (.getfield 34, 3) := by decide +kernel
theorem dX7_resolve_14 : decode cX7_resolve 14 = .ok (.iload_n 2, 1) := by decide +kernel
theorem dX7_resolve_15 : decode cX7_resolve 15 = .ok (.aload_n 1, 1) := by decide +kernel
theorem dX7_resolve_16 : decode cX7_resolve 16 = .ok (.aload_n 0, 1) := by decide +kernel
theorem dX7_resolve_17 : decode cX7_resolve 17 = .ok (.getfield 34, 3) := by decide +kernel
theorem dX7_resolve_20 : decode cX7_resolve 20 = .ok (.iload_n 2, 1) := by decide +kernel
theorem dX7_resolve_21 : decode cX7_resolve 21 = .ok (.iaload, 1) := by decide +kernel
theorem dX7_resolve_22 : decode cX7_resolve 22 = .ok (.invokevirtual 66, 3) := by decide +kernel
theorem dX7_resolve_25 : decode cX7_resolve 25 = .ok (.iastore, 1) := by decide +kernel
theorem dX7_resolve_26 : decode cX7_resolve 26 = .ok (.iinc 2 1, 3) := by decide +kernel
theorem dX7_resolve_29 : decode cX7_resolve 29 = .ok (.goto (-27), 3) := by decide +kernel
theorem dX7_resolve_32 : decode cX7_resolve 32 = .ok (.iconst 0, 1) := by decide +kernel
theorem dX7_resolve_33 : decode cX7_resolve 33 = .ok (.istore_n 2, 1) := by decide +kernel
theorem dX7_resolve_34 : decode cX7_resolve 34 = .ok (.iload_n 2, 1) := by decide +kernel
theorem dX7_resolve_35 : decode cX7_resolve 35 = .ok (.aload_n 0, 1) := by decide +kernel
theorem dX7_resolve_36 : decode cX7_resolve 36 = .ok (.getfield 44, 3) := by decide +kernel
theorem dX7_resolve_39 : decode cX7_resolve 39 = .ok (.if_icmp .ge 31, 3) := by decide +kernel
theorem dX7_resolve_42 : decode cX7_resolve 42 = .ok (.aload_n 0, 1) := by decide +kernel
theorem dX7_resolve_43 : decode cX7_resolve 43 = .ok (.getfield 24, 3) := by decide +kernel
theorem dX7_resolve_46 : decode cX7_resolve 46 = .ok (.iload_n 2, 1) := by decide +kernel
theorem dX7_resolve_47 : decode cX7_resolve 47 = .ok (.aaload, 1) := by decide +kernel
theorem dX7_resolve_48 : decode cX7_resolve 48 = .ok (.aload_n 1, 1) := by decide +kernel
theorem dX7_resolve_49 : decode cX7_resolve 49 = .ok (.aload_n 0, 1) := by decide +kernel
theorem dX7_resolve_50 : decode cX7_resolve 50 = .ok (.getfield 24, 3) := by decide +kernel
theorem dX7_resolve_53 : decode cX7_resolve 53 = .ok (.iload_n 2, 1) := by decide +kernel
theorem dX7_resolve_54 : decode cX7_resolve 54 = .ok (.aaload, 1) := by decide +kernel
theorem dX7_resolve_55 : decode cX7_resolve 55 = .ok (.getfield 54, 3) := by decide +kernel
theorem dX7_resolve_58 : decode cX7_resolve 58 = .ok (.invokevirtual 66, 3) := by decide +kernel
theorem dX7_resolve_61 : decode cX7_resolve 61 = .ok (.putfield 54, 3) := by decide +kernel
theorem dX7_resolve_64 : decode cX7_resolve 64 = .ok (.iinc 2 1, 3) := by decide +kernel
theorem dX7_resolve_67 : decode cX7_resolve 67 = .ok (.goto (-33), 3) := by decide +kernel
theorem dX7_resolve_70 : decode cX7_resolve 70 = .ok (.return_, 1) := by decide +kernel
theorem dX7_step_0 : decode cX7_step 0 = .ok (.iload_n 1, 1) := by decide +kernel
theorem dX7_step_1 : decode cX7_step 1 = .ok (.ifCond .lt 20, 3) := by decide +kernel
theorem dX7_step_4 : decode cX7_step 4 = .ok (.iload_n 1, 1) := by decide +kernel
theorem dX7_step_5 : decode cX7_step 5 = .ok (.aload_n 0, 1) := by decide +kernel
theorem dX7_step_6 : decode cX7_step 6 = .ok (.getfield 47, 3) := by decide +kernel
theorem dX7_step_9 : decode cX7_step 9 = .ok (.if_icmp .ge 12, 3) := by decide +kernel
theorem dX7_step_12 : decode cX7_step 12 = .ok (.aload_n 0, 1) := by decide +kernel
theorem dX7_step_13 : decode cX7_step 13 = .ok (.getfield 30, 3) := by decide +kernel
theorem dX7_step_16 : decode cX7_step 16 = .ok (.iload_n 1, 1) := by decide +kernel
theorem dX7_step_17 : decode cX7_step 17 = .ok (.aaload, 1) := by decide +kernel
theorem dX7_step_18 : decode cX7_step 18 = .ok (.goto 6, 3) := by decide +kernel
theorem dX7_step_21 : decode cX7_step 21 = .ok (.getstatic 72, 3) := by decide +kernel
theorem dX7_step_24 : decode cX7_step 24 = .ok (.areturn, 1) := by decide +kernel
theorem dX7_operand_0 : decode cX7_operand 0 = .ok (.iload_n 1, 1) := by decide +kernel
theorem dX7_operand_1 : decode cX7_operand 1 = .ok (.ifCond .lt 20, 3) := by decide +kernel
theorem dX7_operand_4 : decode cX7_operand 4 = .ok (.iload_n 1, 1) := by decide +kernel
theorem dX7_operand_5 : decode cX7_operand 5 = .ok (.aload_n 0, 1) := by decide +kernel
theorem dX7_operand_6 : decode cX7_operand 6 = .ok (.getfield 47, 3) := by decide +kernel
theorem dX7_operand_9 : decode cX7_operand 9 = .ok (.if_icmp .ge 12, 3) := by decide +kernel
theorem dX7_operand_12 : decode cX7_operand 12 = .ok (.aload_n 0, 1) := by decide +kernel
theorem dX7_operand_13 : decode cX7_operand 13 = .ok (.getfield 34, 3) := by decide +kernel
theorem dX7_operand_16 : decode cX7_operand 16 = .ok (.iload_n 1, 1) := by decide +kernel
theorem dX7_operand_17 : decode cX7_operand 17 = .ok (.iaload, 1) := by decide +kernel
theorem dX7_operand_18 : decode cX7_operand 18 = .ok (.goto 4, 3) := by decide +kernel
theorem dX7_operand_21 : decode cX7_operand 21 = .ok (.iconst 0, 1) := by decide +kernel
theorem dX7_operand_22 : decode cX7_operand 22 = .ok (.ireturn, 1) := by decide +kernel
theorem dX7_copy_0 : decode cX7_copy 0 = .ok (.aload_n 0, 1) := by decide +kernel
theorem dX7_copy_1 : decode cX7_copy 1 = .ok (.aload_n 1, 1) := by decide +kernel
theorem dX7_copy_2 : decode cX7_copy 2 = .ok (.getfield 11, 3) := by decide +kernel
theorem dX7_copy_5 : decode cX7_copy 5 = .ok (.putfield 11, 3) := by decide +kernel
theorem dX7_copy_8 : decode cX7_copy 8 = .ok (.aload_n 0, 1) := by decide +kernel
theorem dX7_copy_9 : decode cX7_copy 9 = .ok (.aload_n 1, 1) := by decide +kernel
theorem dX7_copy_10 : decode cX7_copy 10 = .ok (.getfield 15, 3) := by decide +kernel
theorem dX7_copy_13 : decode cX7_copy 13 = .ok (.putfield 15, 3) := by decide +kernel
theorem dX7_copy_16 : decode cX7_copy 16 = .ok (.aload_n 0, 1) := by decide +kernel
theorem dX7_copy_17 : decode cX7_copy 17 = .ok (.aload_n 1, 1) := by decide +kernel
theorem dX7_copy_18 : decode cX7_copy 18 = .ok (.getfield 41, 3) := by decide +kernel
theorem dX7_copy_21 : decode cX7_copy 21 = .ok (.putfield 41, 3) := by decide +kernel
theorem dX7_copy_24 : decode cX7_copy 24 = .ok (.aload_n 1, 1) := by decide +kernel
theorem dX7_copy_25 : decode cX7_copy 25 = .ok (.getfield 18, 3) := by decide +kernel
theorem dX7_copy_28 : decode cX7_copy 28 = .ok (.iconst 0, 1) := by decide +kernel
theorem dX7_copy_29 : decode cX7_copy 29 = .ok (.aload_n 0, 1) := by decide +kernel
theorem dX7_copy_30 : decode cX7_copy 30 = .ok (.getfield 18, 3) := by decide +kernel
theorem dX7_copy_33 : decode cX7_copy 33 = .ok (.iconst 0, 1) := by decide +kernel
theorem dX7_copy_34 : decode cX7_copy 34 = .ok (.aload_n 0, 1) := by decide +kernel
theorem dX7_copy_35 : decode cX7_copy 35 = .ok (.getfield 18, 3) := by decide +kernel
theorem dX7_copy_38 : decode cX7_copy 38 = .ok (.arraylength, 1) := by decide +kernel
theorem dX7_copy_39 : decode cX7_copy 39 = .ok (.invokestatic 75, 3) := by decide +kernel
theorem dX7_copy_42 : decode cX7_copy 42 = .ok (.aload_n 0, 1) := by decide +kernel
theorem dX7_copy_43 : decode cX7_copy 43 = .ok (.aload_n 1, 1) := by decide +kernel
theorem dX7_copy_44 : decode cX7_copy 44 = .ok (.getfield 44, 3) := by decide +kernel
theorem dX7_copy_47 : decode cX7_copy 47 = .ok (.putfield 44, 3) := by decide +kernel
theorem dX7_copy_50 : decode cX7_copy 50 = .ok (.iconst 0, 1) := by decide +kernel
theorem dX7_copy_51 : decode cX7_copy 51 = .ok (.istore_n 2, 1) := by decide +kernel
theorem dX7_copy_52 : decode cX7_copy 52 = .ok (.iload_n 2, 1) := by decide +kernel
theorem dX7_copy_53 : decode cX7_copy 53 = .ok (.aload_n 0, 1) := by decide +kernel
theorem dX7_copy_54 : decode cX7_copy 54 = .ok (.getfield 24, 3) := by decide +kernel
theorem dX7_copy_57 : decode cX7_copy 57 = .ok (.arraylength, 1) := by decide +kernel
theorem dX7_copy_58 : decode cX7_copy 58 = .ok (.if_icmp .ge 24, 3) := by decide +kernel
theorem dX7_copy_61 : decode cX7_copy 61 = .ok (.aload_n 0, 1) := by decide +kernel
theorem dX7_copy_62 : decode cX7_copy 62 = .ok (.getfield 24, 3) := by decide +kernel
theorem dX7_copy_65 : decode cX7_copy 65 = .ok (.iload_n 2, 1) := by decide +kernel
theorem dX7_copy_66 : decode cX7_copy 66 = .ok (.aaload, 1) := by decide +kernel
theorem dX7_copy_67 : decode cX7_copy 67 = .ok (.aload_n 1, 1) := by decide +kernel
theorem dX7_copy_68 : decode cX7_copy 68 = .ok (.getfield 24, 3) := by decide +kernel
theorem dX7_copy_71 : decode cX7_copy 71 = .ok (.iload_n 2, 1) := by decide +kernel
theorem dX7_copy_72 : decode cX7_copy 72 = .ok (.aaload, 1) := by decide +kernel
theorem dX7_copy_73 : decode cX7_copy 73 = .ok (.invokevirtual 81, 3) := by decide +kernel
theorem dX7_copy_76 : decode cX7_copy 76 = .ok (.iinc 2 1, 3) := by decide +kernel
theorem dX7_copy_79 : decode cX7_copy 79 = .ok (.goto (-27), 3) := by decide +kernel
theorem dX7_copy_82 : decode cX7_copy 82 = .ok (.aload_n 0, 1) := by decide +kernel
theorem dX7_copy_83 : decode cX7_copy 83 = .ok (.aload_n 1, 1) := by decide +kernel
theorem dX7_copy_84 : decode cX7_copy 84 = .ok (.getfield 47, 3) := by decide +kernel
theorem dX7_copy_87 : decode cX7_copy 87 = .ok (.putfield 47, 3) := by decide +kernel
theorem dX7_copy_90 : decode cX7_copy 90 = .ok (.iconst 0, 1) := by decide +kernel
theorem dX7_copy_91 : decode cX7_copy 91 = .ok (.istore_n 2, 1) := by decide +kernel
theorem dX7_copy_92 : decode cX7_copy 92 = .ok (.iload_n 2, 1) := by decide +kernel
theorem dX7_copy_93 : decode cX7_copy 93 = .ok (.aload_n 0, 1) := by decide +kernel
theorem dX7_copy_94 : decode cX7_copy 94 = .ok (.getfield 47, 3) := by decide +kernel
theorem dX7_copy_97 : decode cX7_copy 97 = .ok (.if_icmp .ge 33, 3) := by decide +kernel
theorem dX7_copy_100 : decode cX7_copy 100 = .ok (.aload_n 0, 1) := by decide +kernel
theorem dX7_copy_101 : decode cX7_copy 101 = .ok (.getfield 30, 3) := by decide +kernel
theorem dX7_copy_104 : decode cX7_copy 104 = .ok (.iload_n 2, 1) := by decide +kernel
theorem dX7_copy_105 : decode cX7_copy 105 = .ok (.aload_n 1, 1) := by decide +kernel
theorem dX7_copy_106 : decode cX7_copy 106 = .ok (.getfield 30, 3) := by decide +kernel
theorem dX7_copy_109 : decode cX7_copy 109 = .ok (.iload_n 2, 1) := by decide +kernel
theorem dX7_copy_110 : decode cX7_copy 110 = .ok (.aaload, 1) := by decide +kernel
theorem dX7_copy_111 : decode cX7_copy 111 = .ok (.aastore, 1) := by decide +kernel
theorem dX7_copy_112 : decode cX7_copy 112 = .ok (.aload_n 0, 1) := by decide +kernel
theorem dX7_copy_113 : decode cX7_copy 113 = .ok (.getfield 34, 3) := by decide +kernel
theorem dX7_copy_116 : decode cX7_copy 116 = .ok (.iload_n 2, 1) := by decide +kernel
theorem dX7_copy_117 : decode cX7_copy 117 = .ok (.aload_n 1, 1) := by decide +kernel
theorem dX7_copy_118 : decode cX7_copy 118 = .ok (.getfield 34, 3) := by decide +kernel
theorem dX7_copy_121 : decode cX7_copy 121 = .ok (.iload_n 2, 1) := by decide +kernel
theorem dX7_copy_122 : decode cX7_copy 122 = .ok (.iaload, 1) := by decide +kernel
theorem dX7_copy_123 : decode cX7_copy 123 = .ok (.iastore, 1) := by decide +kernel
theorem dX7_copy_124 : decode cX7_copy 124 = .ok (.iinc 2 1, 3) := by decide +kernel
theorem dX7_copy_127 : decode cX7_copy 127 = .ok (.goto (-35), 3) := by decide +kernel
theorem dX7_copy_130 : decode cX7_copy 130 = .ok (.return_, 1) := by decide +kernel
theorem dX8_init_0 : decode cX8_init 0 = .ok (.aload_n 0, 1) := by decide +kernel
theorem dX8_init_1 : decode cX8_init 1 = .ok (.invokespecial 1, 3) := by decide +kernel
theorem dX8_init_4 : decode cX8_init 4 = .ok (.aload_n 0, 1) := by decide +kernel
theorem dX8_init_5 : decode cX8_init 5 = .ok (.sipush 2000, 3) := by decide +kernel
theorem dX8_init_8 : decode cX8_init 8 = .ok (.newarray .byte, 2) := by decide +kernel
theorem dX8_init_10 : decode cX8_init 10 = .ok (.putfield 9, 3) := by decide +kernel
theorem dX8_init_13 : decode cX8_init 13 = .ok (.return_, 1) := by decide +kernel
theorem dX8_hasRoomFor_0 : decode cX8_hasRoomFor 0 = .ok (.iload_n 1, 1) := by decide +kernel
theorem dX8_hasRoomFor_1 : decode cX8_hasRoomFor 1 = .ok (.sipush 2000, 3) := by decide +kernel
theorem dX8_hasRoomFor_4 : decode cX8_hasRoomFor 4 = .ok (.aload_n 0, 1) := by decide +kernel
theorem dX8_hasRoomFor_5 : decode cX8_hasRoomFor 5 = .ok (.getfield 13, 3) := by decide +kernel
theorem dX8_hasRoomFor_8 : decode cX8_hasRoomFor 8 = .ok (.isub, 1) := by decide +kernel
theorem dX8_hasRoomFor_9 : decode cX8_hasRoomFor 9 = .ok (.if_icmp .gt 7, 3) := by decide +kernel
theorem dX8_hasRoomFor_12 : decode cX8_hasRoomFor 12 = .ok (.iconst 1, 1) := by decide +kernel
theorem dX8_hasRoomFor_13 : decode cX8_hasRoomFor 13 = .ok (.goto 4, 3) := by decide +kernel
theorem dX8_hasRoomFor_16 : decode cX8_hasRoomFor 16 = .ok (.iconst 0, 1) := by decide +kernel
theorem dX8_hasRoomFor_17 : decode cX8_hasRoomFor 17 = .ok (.ireturn, 1) := by decide +kernel
theorem dX8_append_0 : decode cX8_append 0 = .ok (.bipush 24, 2) := by decide +kernel
theorem dX8_append_2 : decode cX8_append 2 = .ok (.istore_n 2, 1) := by decide +kernel
theorem dX8_append_3 : decode cX8_append 3 = .ok (.iload_n 2, 1) := by decide +kernel
theorem dX8_append_4 : decode cX8_append 4 = .ok (.ifCond .lt 42, 3) := by decide +kernel
theorem dX8_append_7 : decode cX8_append 7 = .ok (.aload_n 0, 1) := by decide +kernel
theorem dX8_append_8 : decode cX8_append 8 = .ok (.getfield 13, 3) := by decide +kernel
theorem dX8_append_11 : decode cX8_append 11 = .ok (.sipush 2000, 3) := by decide +kernel
theorem dX8_append_14 : decode cX8_append 14 = .ok (.if_icmp .ge 32, 3) := by decide +kernel
theorem dX8_append_17 : decode cX8_append 17 = .ok (.aload_n 0, 1) := by decide +kernel
theorem dX8_append_18 : decode cX8_append 18 = .ok (.getfield 9, 3) := by decide +kernel
theorem dX8_append_21 : decode cX8_append 21 = .ok (.aload_n 0, 1) := by decide +kernel
theorem dX8_append_22 : decode cX8_append 22 = .ok (.getfield 13, 3) := by decide +kernel
theorem dX8_append_25 : decode cX8_append 25 = .ok (.iload_n 1, 1) := by decide +kernel
theorem dX8_append_26 : decode cX8_append 26 = .ok (.iload_n 2, 1) := by decide +kernel
theorem dX8_append_27 : decode cX8_append 27 = .ok (.ishr, 1) := by decide +kernel
theorem dX8_append_28 : decode cX8_append 28 = .ok (.i2b, 1) := by decide +kernel
theorem dX8_append_29 : decode cX8_append 29 = .ok (.bastore, 1) := by decide +kernel
theorem dX8_append_30 : decode cX8_append 30 = .ok (.aload_n 0, 1) := by decide +kernel
theorem dX8_append_31 : decode cX8_append 31 = .ok (.dup, 1) := by decide +kernel
theorem dX8_append_32 : decode cX8_append 32 = .ok (.getfield 13, 3) := by decide +kernel
theorem dX8_append_35 : decode cX8_append 35 = .ok (.iconst 1, 1) := by decide +kernel
theorem dX8_append_36 : decode cX8_append 36 = .ok (.iadd, 1) := by decide +kernel
theorem dX8_append_37 : decode cX8_append 37 = .ok (.putfield 13, 3) := by decide +kernel
theorem dX8_append_40 : decode cX8_append 40 = .ok (.iinc 2 (-8), 3) := by decide +kernel
theorem dX8_append_43 : decode cX8_append 43 = .ok (.goto (-40), 3) := by decide +kernel
theorem dX8_append_46 : decode cX8_append 46 = .ok (.return_, 1) := by decide +kernel
theorem dX8_byteAt_0 : decode cX8_byteAt 0 = .ok (.iload_n 1, 1) := by decide +kernel
theorem dX8_byteAt_1 : decode cX8_byteAt 1 = .ok (.ifCond .lt 20, 3) := by decide +kernel
theorem dX8_byteAt_4 : decode cX8_byteAt 4 = .ok (.iload_n 1, 1) := by decide +kernel
theorem dX8_byteAt_5 : decode cX8_byteAt 5 = .ok (.aload_n 0, 1) := by decide +kernel
theorem dX8_byteAt_6 : decode cX8_byteAt 6 = .ok (.getfield 13, 3) := by decide +kernel
theorem dX8_byteAt_9 : decode cX8_byteAt 9 = .ok (.if_icmp .ge 12, 3) := by decide +kernel
theorem dX8_byteAt_12 : decode cX8_byteAt 12 = .ok (.aload_n 0, 1) := by decide +kernel
theorem dX8_byteAt_13 : decode cX8_byteAt 13 = .ok (.getfield 9, 3) := by decide +kernel
theorem dX8_byteAt_16 : decode cX8_byteAt 16 = .ok (.iload_n 1, 1) := by decide +kernel
theorem dX8_byteAt_17 : decode cX8_byteAt 17 = .ok (.baload, 1) := by decide +kernel
theorem dX8_byteAt_18 : decode cX8_byteAt 18 = .ok (.goto 4, 3) := by decide +kernel
theorem dX8_byteAt_21 : decode cX8_byteAt 21 = .ok (.iconst 0, 1) := by decide +kernel
theorem dX8_byteAt_22 : decode cX8_byteAt 22 = .ok (.ireturn, 1) := by decide +kernel
theorem dX8_isLetter_0 : decode cX8_isLetter 0 = .ok (.aload_n 0, 1) := by decide +kernel
theorem dX8_isLetter_1 : decode cX8_isLetter 1 = .ok (.iload_n 1, 1) := by decide +kernel
theorem dX8_isLetter_2 : decode cX8_isLetter 2 = .ok (.invokevirtual 17, 3) := by decide +kernel
theorem dX8_isLetter_5 : decode cX8_isLetter 5 = .ok (.istore_n 2, 1) := by decide +kernel
theorem dX8_isLetter_6 : decode cX8_isLetter 6 = .ok (.iload_n 2, 1) := by decide +kernel
theorem dX8_isLetter_7 : decode cX8_isLetter 7 = .ok (.bipush 97, 2) := by decide +kernel
theorem dX8_isLetter_9 : decode cX8_isLetter 9 = .ok (.if_icmp .lt 13, 3) := by decide +kernel
theorem dX8_isLetter_12 : decode cX8_isLetter 12 = .ok (.iload_n 2, 1) := by decide +kernel
theorem dX8_isLetter_13 : decode cX8_isLetter 13 = .ok (.bipush 122, 2) := by decide +kernel
theorem dX8_isLetter_15 : decode cX8_isLetter 15 = .ok (.if_icmp .gt 7, 3) := by decide +kernel
theorem dX8_isLetter_18 : decode cX8_isLetter 18 = .ok (.iconst 1, 1) := by decide +kernel
theorem dX8_isLetter_19 : decode cX8_isLetter 19 = .ok (.goto 4, 3) := by decide +kernel
theorem dX8_isLetter_22 : decode cX8_isLetter 22 = .ok (.iconst 0, 1) := by decide +kernel
theorem dX8_isLetter_23 : decode cX8_isLetter 23 = .ok (.ireturn, 1) := by decide +kernel
theorem dX8_isDigit_0 : decode cX8_isDigit 0 = .ok (.aload_n 0, 1) := by decide +kernel
theorem dX8_isDigit_1 : decode cX8_isDigit 1 = .ok (.iload_n 1, 1) := by decide +kernel
theorem dX8_isDigit_2 : decode cX8_isDigit 2 = .ok (.invokevirtual 17, 3) := by decide +kernel
theorem dX8_isDigit_5 : decode cX8_isDigit 5 = .ok (.istore_n 2, 1) := by decide +kernel
theorem dX8_isDigit_6 : decode cX8_isDigit 6 = .ok (.iload_n 2, 1) := by decide +kernel
theorem dX8_isDigit_7 : decode cX8_isDigit 7 = .ok (.bipush 48, 2) := by decide +kernel
theorem dX8_isDigit_9 : decode cX8_isDigit 9 = .ok (.if_icmp .lt 13, 3) := by decide +kernel
theorem dX8_isDigit_12 : decode cX8_isDigit 12 = .ok (.iload_n 2, 1) := by decide +kernel
theorem dX8_isDigit_13 : decode cX8_isDigit 13 = .ok (.bipush 57, 2) := by decide +kernel
theorem dX8_isDigit_15 : decode cX8_isDigit 15 = .ok (.if_icmp .gt 7, 3) := by decide +kernel
theorem dX8_isDigit_18 : decode cX8_isDigit 18 = .ok (.iconst 1, 1) := by decide +kernel
theorem dX8_isDigit_19 : decode cX8_isDigit 19 = .ok (.goto 4, 3) := by decide +kernel
theorem dX8_isDigit_22 : decode cX8_isDigit 22 = .ok (.iconst 0, 1) := by decide +kernel
theorem dX8_isDigit_23 : decode cX8_isDigit 23 = .ok (.ireturn, 1) := by decide +kernel
theorem dX8_behindBlanks_0 : decode cX8_behindBlanks 0 = .ok (.iload_n 1, 1) := by decide +kernel
theorem dX8_behindBlanks_1 : decode cX8_behindBlanks 1 = .ok (.istore_n 2, 1) := by decide +kernel
theorem dX8_behindBlanks_2 : decode cX8_behindBlanks 2 = .ok (.iload_n 2, 1) := by decide +kernel
theorem dX8_behindBlanks_3 : decode cX8_behindBlanks 3 = .ok (.aload_n 0, 1) := by decide +kernel
theorem dX8_behindBlanks_4 : decode cX8_behindBlanks 4 = .ok (.getfield 13, 3) := by decide +kernel
theorem dX8_behindBlanks_7 : decode cX8_behindBlanks 7 = .ok (.if_icmp .ge 29, 3) := by decide +kernel
theorem dX8_behindBlanks_10 : decode cX8_behindBlanks 10 = .ok (.aload_n 0, 1) := by decide +kernel
theorem dX8_behindBlanks_11 : decode cX8_behindBlanks 11 = .ok (.iload_n 2, 1) := by decide +kernel
theorem dX8_behindBlanks_12 : decode cX8_behindBlanks 12 = .ok (.invokevirtual 17, 3) := by decide +kernel
theorem dX8_behindBlanks_15 : decode cX8_behindBlanks 15 = .ok (.bipush 32, 2) := by decide +kernel
theorem dX8_behindBlanks_17 : decode cX8_behindBlanks 17 = .ok (.if_icmp .eq 13, 3) := by decide +kernel
theorem dX8_behindBlanks_20 : decode cX8_behindBlanks 20 = .ok (.aload_n 0, 1) := by decide +kernel
theorem dX8_behindBlanks_21 : decode cX8_behindBlanks 21 = .ok (.iload_n 2, 1) := by decide +kernel
theorem dX8_behindBlanks_22 : decode cX8_behindBlanks 22 = .ok (.invokevirtual 17, 3) := by decide +kernel
theorem dX8_behindBlanks_25 : decode cX8_behindBlanks 25 = .ok (.bipush 10, 2) := by decide +kernel
theorem dX8_behindBlanks_27 : decode cX8_behindBlanks 27 = .ok (.if_icmp .ne 9, 3) := by decide +kernel
theorem dX8_behindBlanks_30 : decode cX8_behindBlanks 30 = .ok (.iinc 2 1, 3) := by decide +kernel
theorem dX8_behindBlanks_33 : decode cX8_behindBlanks 33 = .ok (.goto (-31), 3) := by decide +kernel
theorem dX8_behindBlanks_36 : decode cX8_behindBlanks 36 = .ok (.iload_n 2, 1) := by decide +kernel
theorem dX8_behindBlanks_37 : decode cX8_behindBlanks 37 = .ok (.ireturn, 1) := by decide +kernel
theorem dX8_behindWord_0 : decode cX8_behindWord 0 = .ok (.iload_n 1, 1) := by decide +kernel
theorem dX8_behindWord_1 : decode cX8_behindWord 1 = .ok (.istore_n 2, 1) := by decide +kernel
theorem dX8_behindWord_2 : decode cX8_behindWord 2 = .ok (.iload_n 2, 1) := by decide +kernel
theorem dX8_behindWord_3 : decode cX8_behindWord 3 = .ok (.aload_n 0, 1) := by decide +kernel
theorem dX8_behindWord_4 : decode cX8_behindWord 4 = .ok (.getfield 13, 3) := by decide +kernel
theorem dX8_behindWord_7 : decode cX8_behindWord 7 = .ok (.if_icmp .ge 25, 3) := by decide +kernel
theorem dX8_behindWord_10 : decode cX8_behindWord 10 = .ok (.aload_n 0, 1) := by decide +kernel
theorem dX8_behindWord_11 : decode cX8_behindWord 11 = .ok (.iload_n 2, 1) := by decide +kernel
theorem dX8_behindWord_12 : decode cX8_behindWord 12 = .ok (.invokevirtual 21, 3) := by decide +kernel
theorem dX8_behindWord_15 : decode cX8_behindWord 15 = .ok (.ifCond .ne 11, 3) := by decide +kernel
theorem dX8_behindWord_18 : decode cX8_behindWord 18 = .ok (.aload_n 0, 1) := by decide +kernel
theorem dX8_behindWord_19 : decode cX8_behindWord 19 = .ok (.iload_n 2, 1) := by decide +kernel
theorem dX8_behindWord_20 : decode cX8_behindWord 20 = .ok (.invokevirtual 25, 3) := by decide +kernel
theorem dX8_behindWord_23 : decode cX8_behindWord 23 = .ok (.ifCond .eq 9, 3) := by decide +kernel
theorem dX8_behindWord_26 : decode cX8_behindWord 26 = .ok (.iinc 2 1, 3) := by decide +kernel
theorem dX8_behindWord_29 : decode cX8_behindWord 29 = .ok (.goto (-27), 3) := by decide +kernel
theorem dX8_behindWord_32 : decode cX8_behindWord 32 = .ok (.iload_n 2, 1) := by decide +kernel
theorem dX8_behindWord_33 : decode cX8_behindWord 33 = .ok (.ireturn, 1) := by decide +kernel
theorem dX8_behindDigits_0 : decode cX8_behindDigits 0 = .ok (.iload_n 1, 1) := by decide +kernel
theorem dX8_behindDigits_1 : decode cX8_behindDigits 1 = .ok (.istore_n 2, 1) := by decide +kernel
theorem dX8_behindDigits_2 : decode cX8_behindDigits 2 = .ok (.iload_n 2, 1) := by decide +kernel
theorem dX8_behindDigits_3 : decode cX8_behindDigits 3 = .ok (.aload_n 0, 1) := by decide +kernel
theorem dX8_behindDigits_4 : decode cX8_behindDigits 4 = .ok (.getfield 13, 3) := by decide +kernel
theorem dX8_behindDigits_7 : decode cX8_behindDigits 7 = .ok (.if_icmp .ge 17, 3) := by decide +kernel
theorem dX8_behindDigits_10 : decode cX8_behindDigits 10 = .ok (.aload_n 0, 1) := by decide +kernel
theorem dX8_behindDigits_11 : decode cX8_behindDigits 11 = .ok (.iload_n 2, 1) := by decide +kernel
theorem dX8_behindDigits_12 : decode cX8_behindDigits 12 = .ok (.invokevirtual 25, 3) := by decide +kernel
theorem dX8_behindDigits_15 : decode cX8_behindDigits 15 = .ok (.ifCond .eq 9, 3) := by decide +kernel
theorem dX8_behindDigits_18 : decode cX8_behindDigits 18 = .ok (.iinc 2 1, 3) := by decide +kernel
theorem dX8_behindDigits_21 : decode cX8_behindDigits 21 = .ok (.goto (-19), 3) := by decide +kernel
theorem dX8_behindDigits_24 : decode cX8_behindDigits 24 = .ok (.iload_n 2, 1) := by decide +kernel
theorem dX8_behindDigits_25 : decode cX8_behindDigits 25 = .ok (.ireturn, 1) := by decide +kernel
theorem dX8_says_0 : decode cX8_says 0 = .ok (.aload_n 1, 1) := by decide +kernel
theorem dX8_says_1 : decode cX8_says 1 = .ok (.invokevirtual 28, 3) := by decide +kernel
theorem dX8_says_4 : decode cX8_says 4 = .ok (.iload_n 3, 1) := by decide +kernel
theorem dX8_says_5 : decode cX8_says 5 = .ok (.iload_n 2, 1) := by decide +kernel
theorem dX8_says_6 : decode cX8_says 6 = .ok (.isub, 1) := by decide +kernel
theorem dX8_says_7 : decode cX8_says 7 = .ok (.if_icmp .eq 5, 3) := by decide +kernel
theorem dX8_says_10 : decode cX8_says 10 = .ok (.iconst 0, 1) := by decide +kernel
theorem dX8_says_11 : decode cX8_says 11 = .ok (.ireturn, 1) := by decide +kernel
theorem dX8_says_12 : decode cX8_says 12 = .ok (.iconst 0, 1) := by decide +kernel
theorem dX8_says_13 : decode cX8_says 13 = .ok (.istore 4, 2) := by decide +kernel
theorem dX8_says_15 : decode cX8_says 15 = .ok (.iload 4, 2) := by decide +kernel
theorem dX8_says_17 : decode cX8_says 17 = .ok (.aload_n 1, 1) := by decide +kernel
theorem dX8_says_18 : decode cX8_says 18 = .ok (.invokevirtual 28, 3) := by decide +kernel
theorem dX8_says_21 : decode cX8_says 21 = .ok (.if_icmp .ge 28, 3) := by decide +kernel
theorem dX8_says_24 : decode cX8_says 24 = .ok (.aload_n 1, 1) := by decide +kernel
theorem dX8_says_25 : decode cX8_says 25 = .ok (.iload 4, 2) := by decide +kernel
theorem dX8_says_27 : decode cX8_says 27 = .ok (.invokevirtual 34, 3) := by decide +kernel
theorem dX8_says_30 : decode cX8_says 30 = .ok (.aload_n 0, 1) := by decide +kernel
theorem dX8_says_31 : decode cX8_says 31 = .ok (.iload_n 2, 1) := by decide +kernel
theorem dX8_says_32 : decode cX8_says 32 = .ok (.iload 4, 2) := by decide +kernel
theorem dX8_says_34 : decode cX8_says 34 = .ok (.iadd, 1) := by decide +kernel
theorem dX8_says_35 : decode cX8_says 35 = .ok (.invokevirtual 17, 3) := by decide +kernel
theorem dX8_says_38 : decode cX8_says 38 = .ok (.if_icmp .eq 5, 3) := by decide +kernel
theorem dX8_says_41 : decode cX8_says 41 = .ok (.iconst 0, 1) := by decide +kernel
theorem dX8_says_42 : decode cX8_says 42 = .ok (.ireturn, 1) := by decide +kernel
theorem dX8_says_43 : decode cX8_says 43 = .ok (.iinc 4 1, 3) := by decide +kernel
theorem dX8_says_46 : decode cX8_says 46 = .ok (.goto (-31), 3) := by decide +kernel
theorem dX8_says_49 : decode cX8_says 49 = .ok (.iconst 1, 1) := by decide +kernel
theorem dX8_says_50 : decode cX8_says 50 = .ok (.ireturn, 1) := by decide +kernel
theorem dX8_saysSame_0 : decode cX8_saysSame 0 = .ok (.iconst 0, 1) := by decide +kernel
theorem dX8_saysSame_1 : decode cX8_saysSame 1 = .ok (.istore 4, 2) := by decide +kernel
theorem dX8_saysSame_3 : decode cX8_saysSame 3 = .ok (.iload 4, 2) := by decide +kernel
theorem dX8_saysSame_5 : decode cX8_saysSame 5 = .ok (.iload_n 3, 1) := by decide +kernel
theorem dX8_saysSame_6 : decode cX8_saysSame 6 = .ok (.if_icmp .ge 30, 3) := by decide +kernel
theorem dX8_saysSame_9 : decode cX8_saysSame 9 = .ok (.aload_n 0, 1) := by decide +kernel
theorem dX8_saysSame_10 : decode cX8_saysSame 10 = .ok (.iload_n 1, 1) := by decide +kernel
theorem dX8_saysSame_11 : decode cX8_saysSame 11 = .ok (.iload 4, 2) := by decide +kernel
theorem dX8_saysSame_13 : decode cX8_saysSame 13 = .ok (.iadd, 1) := by decide +kernel
theorem dX8_saysSame_14 : decode cX8_saysSame 14 = .ok (.invokevirtual 17, 3) := by decide +kernel
theorem dX8_saysSame_17 : decode cX8_saysSame 17 = .ok (.aload_n 0, 1) := by decide +kernel
theorem dX8_saysSame_18 : decode cX8_saysSame 18 = .ok (.iload_n 2, 1) := by decide +kernel
theorem dX8_saysSame_19 : decode cX8_saysSame 19 = .ok (.iload 4, 2) := by decide +kernel
theorem dX8_saysSame_21 : decode cX8_saysSame 21 = .ok (.iadd, 1) := by decide +kernel
theorem dX8_saysSame_22 : decode cX8_saysSame 22 = .ok (.invokevirtual 17, 3) := by decide +kernel
theorem dX8_saysSame_25 : decode cX8_saysSame 25 = .ok (.if_icmp .eq 5, 3) := by decide +kernel
theorem dX8_saysSame_28 : decode cX8_saysSame 28 = .ok (.iconst 0, 1) := by decide +kernel
theorem dX8_saysSame_29 : decode cX8_saysSame 29 = .ok (.ireturn, 1) := by decide +kernel
theorem dX8_saysSame_30 : decode cX8_saysSame 30 = .ok (.iinc 4 1, 3) := by decide +kernel
theorem dX8_saysSame_33 : decode cX8_saysSame 33 = .ok (.goto (-30), 3) := by decide +kernel
theorem dX8_saysSame_36 : decode cX8_saysSame 36 = .ok (.iconst 1, 1) := by decide +kernel
theorem dX8_saysSame_37 : decode cX8_saysSame 37 = .ok (.ireturn, 1) := by decide +kernel
theorem dX9_init_0 : decode cX9_init 0 = .ok (.aload_n 0, 1) := by decide +kernel
theorem dX9_init_1 : decode cX9_init 1 = .ok (.invokespecial 3, 3) := by decide +kernel
theorem dX9_init_4 : decode cX9_init 4 = .ok (.aload_n 0, 1) := by decide +kernel
theorem dX9_init_5 : decode cX9_init 5 = .ok (.sipush 401, 3) := by decide +kernel
theorem dX9_init_8 : decode cX9_init 8 = .ok (.anewarray 9, 3) := by decide +kernel
theorem dX9_init_11 : decode cX9_init 11 = .ok (.putfield 11, 3) := by decide +kernel
theorem dX9_init_14 : decode cX9_init 14 = .ok (.aload_n 0, 1) := by decide +kernel
theorem dX9_init_15 : decode cX9_init 15 = .ok (.sipush 401, 3) := by decide +kernel
theorem dX9_init_18 : decode cX9_init 18 = .ok (.newarray .int, 2) := by decide +kernel
theorem dX9_init_20 : decode cX9_init 20 = .ok (.putfield 17, 3) := by decide +kernel
theorem dX9_init_23 : decode cX9_init 23 = .ok (.aload_n 0, 1) := by decide +kernel
theorem dX9_init_24 : decode cX9_init 24 = .ok (.sipush 401, 3) := by decide +kernel
theorem dX9_init_27 : decode cX9_init 27 = .ok (.newarray .int, 2) := by decide +kernel
theorem dX9_init_29 : decode cX9_init 29 = .ok (.putfield 21, 3) := by decide +kernel
theorem dX9_init_32 : decode cX9_init 32 = .ok (.aload_n 0, 1) := by decide +kernel
theorem dX9_init_33 : decode cX9_init 33 = .ok (.sipush 401, 3) := by decide +kernel
theorem dX9_init_36 : decode cX9_init 36 = .ok (.newarray .int, 2) := by decide +kernel
theorem dX9_init_38 : decode cX9_init 38 = .ok (.putfield 24, 3) := by decide +kernel
theorem dX9_init_41 : decode cX9_init 41 = .ok (.aload_n 0, 1) := by decide +kernel
theorem dX9_init_42 : decode cX9_init 42 = .ok (.aload_n 1, 1) := by decide +kernel
theorem dX9_init_43 : decode cX9_init 43 = .ok (.putfield 27, 3) := by decide +kernel
theorem dX9_init_46 : decode cX9_init 46 = .ok (.return_, 1) := by decide +kernel
theorem dX9_cutTape_0 : decode cX9_cutTape 0 = .ok (.aload_n 0, 1) := by decide +kernel
theorem dX9_cutTape_1 : decode cX9_cutTape 1 = .ok (.iconst 0, 1) := by decide +kernel
theorem dX9_cutTape_2 : decode cX9_cutTape 2 = .ok (.putfield 31, 3) := by decide +kernel
theorem dX9_cutTape_5 : decode cX9_cutTape 5 = .ok (.aload_n 0, 1) := by decide +kernel
theorem dX9_cutTape_6 : decode cX9_cutTape 6 = .ok (.getfield 27, 3) := by decide +kernel
theorem dX9_cutTape_9 : decode cX9_cutTape 9 = .ok (.iconst 0, 1) := by decide +kernel
theorem dX9_cutTape_10 : decode cX9_cutTape 10 = .ok (.invokevirtual 35, 3) := by decide +kernel
theorem dX9_cutTape_13 : decode cX9_cutTape 13 = .ok (.istore_n 1, 1) := by decide +kernel
theorem dX9_cutTape_14 : decode cX9_cutTape 14 = .ok (.iconst 0, 1) := by decide +kernel
theorem dX9_cutTape_15 : decode cX9_cutTape 15 = .ok (.istore_n 2, 1) := by decide +kernel
theorem dX9_cutTape_16 : decode cX9_cutTape 16 = .ok (.iload_n 2, 1) := by decide +kernel
theorem dX9_cutTape_17 : decode cX9_cutTape 17 = .ok (.sipush 400, 3) := by decide +kernel
theorem dX9_cutTape_20 : decode cX9_cutTape 20 = .ok (.if_icmp .ge 62, 3) := by decide +kernel
theorem dX9_cutTape_23 : decode cX9_cutTape 23 = .ok (.iload_n 1, 1) := by decide +kernel
theorem dX9_cutTape_24 : decode cX9_cutTape 24 = .ok (.aload_n 0, 1) := by decide +kernel
theorem dX9_cutTape_25 : decode cX9_cutTape 25 = .ok (.getfield 27, 3) := by decide +kernel
theorem dX9_cutTape_28 : decode cX9_cutTape 28 = .ok (.getfield 41, 3) := by decide +kernel
theorem dX9_cutTape_31 : decode cX9_cutTape 31 = .ok (.if_icmp .ge 51, 3) := by decide +kernel
theorem dX9_cutTape_34 : decode cX9_cutTape 34 = .ok (.aload_n 0, 1) := by decide +kernel
theorem dX9_cutTape_35 : decode cX9_cutTape 35 = .ok (.iload_n 1, 1) := by decide +kernel
theorem dX9_cutTape_36 : decode cX9_cutTape 36 = .ok (.invokevirtual 44, 3) := by decide +kernel
theorem dX9_cutTape_39 : decode cX9_cutTape 39 = .ok (.istore_n 3, 1) := by decide +kernel
theorem dX9_cutTape_40 : decode cX9_cutTape 40 = .ok (.aload_n 0, 1) := by decide +kernel
theorem dX9_cutTape_41 : decode cX9_cutTape 41 = .ok (.iload_n 1, 1) := by decide +kernel
theorem dX9_cutTape_42 : decode cX9_cutTape 42 = .ok (.iload_n 3, 1) := by decide +kernel
theorem dX9_cutTape_43 : decode cX9_cutTape 43 = .ok (.invokevirtual 47, 3) := by decide +kernel
theorem dX9_cutTape_46 : decode cX9_cutTape 46 = .ok (.astore 4, 2) := by decide +kernel
theorem dX9_cutTape_48 : decode cX9_cutTape 48 = .ok (.aload 4, 2) := by decide +kernel
theorem dX9_cutTape_50 : decode cX9_cutTape 50 = .ok (.getstatic 51, 3) := by decide +kernel
theorem dX9_cutTape_53 : decode cX9_cutTape 53 = .ok (.if_acmp .ne 6, 3) := by decide +kernel
theorem dX9_cutTape_56 : decode cX9_cutTape 56 = .ok (.goto 26, 3) := by decide +kernel
theorem dX9_cutTape_59 : decode cX9_cutTape 59 = .ok (.aload_n 0, 1) := by decide +kernel
theorem dX9_cutTape_60 : decode cX9_cutTape 60 = .ok (.aload 4, 2) := by decide +kernel
theorem dX9_cutTape_62 : decode cX9_cutTape 62 = .ok (.iload_n 1, 1) := by decide +kernel
theorem dX9_cutTape_63 : decode cX9_cutTape 63 = .ok (.iload_n 3, 1) := by decide +kernel
theorem dX9_cutTape_64 : decode cX9_cutTape 64 = .ok (.invokevirtual 55, 3) := by decide +kernel
theorem dX9_cutTape_67 : decode cX9_cutTape 67 = .ok (.aload_n 0, 1) := by decide +kernel
theorem dX9_cutTape_68 : decode cX9_cutTape 68 = .ok (.getfield 27, 3) := by decide +kernel
theorem dX9_cutTape_71 : decode cX9_cutTape 71 = .ok (.iload_n 3, 1) := by decide +kernel
theorem dX9_cutTape_72 : decode cX9_cutTape 72 = .ok (.invokevirtual 35, 3) := by decide +kernel
theorem dX9_cutTape_75 : decode cX9_cutTape 75 = .ok (.istore_n 1, 1) := by decide +kernel
theorem dX9_cutTape_76 : decode cX9_cutTape 76 = .ok (.iinc 2 1, 3) := by decide +kernel
theorem dX9_cutTape_79 : decode cX9_cutTape 79 = .ok (.goto (-63), 3) := by decide +kernel
theorem dX9_cutTape_82 : decode cX9_cutTape 82 = .ok (.aload_n 0, 1) := by decide +kernel
theorem dX9_cutTape_83 : decode cX9_cutTape 83 = .ok (.iload_n 1, 1) := by decide +kernel
theorem dX9_cutTape_84 : decode cX9_cutTape 84 = .ok (.aload_n 0, 1) := by decide +kernel
theorem dX9_cutTape_85 : decode cX9_cutTape 85 = .ok (.getfield 27, 3) := by decide +kernel
theorem dX9_cutTape_88 : decode cX9_cutTape 88 = .ok (.getfield 41, 3) := by decide +kernel
theorem dX9_cutTape_91 : decode cX9_cutTape 91 = .ok (.if_icmp .ge 9, 3) := by decide +kernel
theorem dX9_cutTape_94 : decode cX9_cutTape 94 = .ok (.getstatic 51, 3) := by decide +kernel
theorem dX9_cutTape_97 : decode cX9_cutTape 97 = .ok (.goto 6, 3) := by decide +kernel
theorem dX9_cutTape_100 : decode cX9_cutTape 100 = .ok (.getstatic 59, 3) := by decide +kernel
theorem dX9_cutTape_103 : decode cX9_cutTape 103 = .ok (.iload_n 1, 1) := by decide +kernel
theorem dX9_cutTape_104 : decode cX9_cutTape 104 = .ok (.iload_n 1, 1) := by decide +kernel
theorem dX9_cutTape_105 : decode cX9_cutTape 105 = .ok (.invokevirtual 55, 3) := by decide +kernel
theorem dX9_cutTape_108 : decode cX9_cutTape 108 = .ok (.return_, 1) := by decide +kernel
theorem dX9_add_0 : decode cX9_add 0 = .ok (.aload_n 0, 1) := by decide +kernel
theorem dX9_add_1 : decode cX9_add 1 = .ok (.getfield 31, 3) := by decide +kernel
theorem dX9_add_4 : decode cX9_add 4 = .ok (.aload_n 0, 1) := by decide +kernel
theorem dX9_add_5 : decode cX9_add 5 = .ok (.getfield 11, 3) := by decide +kernel
theorem dX9_add_8 : decode cX9_add 8 = .ok (.arraylength, 1) := by decide +kernel
theorem dX9_add_9 : decode cX9_add 9 = .ok (.if_icmp .ge 69, 3) := by decide +kernel
theorem dX9_add_12 : decode cX9_add 12 = .ok (.aload_n 0, 1) := by decide +kernel
theorem dX9_add_13 : decode cX9_add 13 = .ok (.getfield 11, 3) := by decide +kernel
theorem dX9_add_16 : decode cX9_add 16 = .ok (.aload_n 0, 1) := by decide +kernel
theorem dX9_add_17 : decode cX9_add 17 = .ok (.getfield 31, 3) := by decide +kernel
theorem dX9_add_20 : decode cX9_add 20 = .ok (.aload_n 1, 1) := by decide +kernel
theorem dX9_add_21 : decode cX9_add 21 = .ok (.aastore, 1) := by decide +kernel
theorem dX9_add_22 : decode cX9_add 22 = .ok (.aload_n 0, 1) := by decide +kernel
theorem dX9_add_23 : decode cX9_add 23 = .ok (.getfield 17, 3) := by decide +kernel
theorem dX9_add_26 : decode cX9_add 26 = .ok (.aload_n 0, 1) := by decide +kernel
theorem dX9_add_27 : decode cX9_add 27 = .ok (.getfield 31, 3) := by decide +kernel
theorem dX9_add_30 : decode cX9_add 30 = .ok (.iload_n 2, 1) := by decide +kernel
theorem dX9_add_31 : decode cX9_add 31 = .ok (.iastore, 1) := by decide +kernel
theorem dX9_add_32 : decode cX9_add 32 = .ok (.aload_n 0, 1) := by decide +kernel
theorem dX9_add_33 : decode cX9_add 33 = .ok (.getfield 21, 3) := by decide +kernel
theorem dX9_add_36 : decode cX9_add 36 = .ok (.aload_n 0, 1) := by decide +kernel
theorem dX9_add_37 : decode cX9_add 37 = .ok (.getfield 31, 3) := by decide +kernel
theorem dX9_add_40 : decode cX9_add 40 = .ok (.iload_n 3, 1) := by decide +kernel
theorem dX9_add_41 : decode cX9_add 41 = .ok (.iastore, 1) := by decide +kernel
theorem dX9_add_42 : decode cX9_add 42 = .ok (.aload_n 0, 1) := by decide +kernel
theorem dX9_add_43 : decode cX9_add 43 = .ok (.getfield 24, 3) := by decide +kernel
theorem dX9_add_46 : decode cX9_add 46 = .ok (.aload_n 0, 1) := by decide +kernel
theorem dX9_add_47 : decode cX9_add 47 = .ok (.getfield 31, 3) := by decide +kernel
theorem dX9_add_50 : decode cX9_add 50 = .ok (.aload_n 1, 1) := by decide +kernel
theorem dX9_add_51 : decode cX9_add 51 = .ok (.getstatic 62, 3) := by decide +kernel
theorem dX9_add_54 : decode cX9_add 54 = .ok (.if_acmp .ne 12, 3) := by decide +kernel
theorem dX9_add_57 : decode cX9_add 57 = .ok (.aload_n 0, 1) := by decide +kernel
theorem dX9_add_58 : decode cX9_add 58 = .ok (.iload_n 2, 1) := by decide +kernel
theorem dX9_add_59 : decode cX9_add 59 = .ok (.iload_n 3, 1) := by decide +kernel
theorem dX9_add_60 : decode cX9_add 60 = .ok (.invokevirtual 65, 3) := by decide +kernel
theorem dX9_add_63 : decode cX9_add 63 = .ok (.goto 4, 3) := by decide +kernel
theorem dX9_add_66 : decode cX9_add 66 = .ok (.iconst 0, 1) := by decide +kernel
theorem dX9_add_67 : decode cX9_add 67 = .ok (.iastore, 1) := by decide +kernel
theorem dX9_add_68 : decode cX9_add 68 = .ok (.aload_n 0, 1) := by decide +kernel
theorem dX9_add_69 : decode cX9_add 69 = .ok (.dup, 1) := by decide +kernel
theorem dX9_add_70 : decode cX9_add 70 = .ok (.getfield 31, 3) := by decide +kernel
theorem dX9_add_73 : decode cX9_add 73 = .ok (.iconst 1, 1) := by decide +kernel
theorem dX9_add_74 : decode cX9_add 74 = .ok (.iadd, 1) := by decide +kernel
theorem dX9_add_75 : decode cX9_add 75 = .ok (.putfield 31, 3) := by decide +kernel
theorem dX9_add_78 : decode cX9_add 78 = .ok (.return_, 1) := by decide +kernel
theorem dX9_endOfToken_0 : decode cX9_endOfToken 0 = .ok (.aload_n 0, 1) := by decide +kernel
theorem dX9_endOfToken_1 : decode cX9_endOfToken 1 = .ok (.getfield 27, 3) := by decide +kernel
theorem dX9_endOfToken_4 : decode cX9_endOfToken 4 = .ok (.iload_n 1, 1) := by decide +kernel
theorem dX9_endOfToken_5 : decode cX9_endOfToken 5 = .ok (.invokevirtual 69, 3) := by decide +kernel
theorem dX9_endOfToken_8 : decode cX9_endOfToken 8 = .ok (.ifCond .eq 12, 3) := by decide +kernel
theorem dX9_endOfToken_11 : decode cX9_endOfToken 11 = .ok (.aload_n 0, 1) := by decide +kernel
theorem dX9_endOfToken_12 : decode cX9_endOfToken 12 = .ok (.getfield 27, 3) := by decide +kernel
theorem dX9_endOfToken_15 : decode cX9_endOfToken 15 = .ok (.iload_n 1, 1) := by decide +kernel
theorem dX9_endOfToken_16 : decode cX9_endOfToken 16 = .ok (.invokevirtual 73, 3) := by decide +kernel
theorem dX9_endOfToken_19 : decode cX9_endOfToken 19 = .ok (.ireturn, 1) := by decide +kernel
theorem dX9_endOfToken_20 : decode cX9_endOfToken 20 = .ok (.aload_n 0, 1) := by decide +kernel
theorem dX9_endOfToken_21 : decode cX9_endOfToken 21 = .ok (.getfield 27, 3) := by decide +kernel
theorem dX9_endOfToken_24 : decode cX9_endOfToken 24 = .ok (.iload_n 1, 1) := by decide +kernel
theorem dX9_endOfToken_25 : decode cX9_endOfToken 25 = .ok (.invokevirtual 76, 3) := by decide +kernel
theorem dX9_endOfToken_28 : decode cX9_endOfToken 28 = .ok (.ifCond .eq 12, 3) := by decide +kernel
theorem dX9_endOfToken_31 : decode cX9_endOfToken 31 = .ok (.aload_n 0, 1) := by decide +kernel
theorem dX9_endOfToken_32 : decode cX9_endOfToken 32 = .ok (.getfield 27, 3) := by decide +kernel
theorem dX9_endOfToken_35 : decode cX9_endOfToken 35 = .ok (.iload_n 1, 1) := by decide +kernel
theorem dX9_endOfToken_36 : decode cX9_endOfToken 36 = .ok (.invokevirtual 79, 3) := by decide +kernel
theorem dX9_endOfToken_39 : decode cX9_endOfToken 39 = .ok (.ireturn, 1) := by decide +kernel
theorem dX9_endOfToken_40 : decode cX9_endOfToken 40 = .ok (.aload_n 0, 1) := by decide +kernel
theorem dX9_endOfToken_41 : decode cX9_endOfToken 41 = .ok (.getfield 27, 3) := by decide +kernel
theorem dX9_endOfToken_44 : decode cX9_endOfToken 44 = .ok (.iload_n 1, 1) := by decide +kernel
theorem dX9_endOfToken_45 : decode cX9_endOfToken 45 = .ok (.invokevirtual 82, 3) := by decide +kernel
theorem dX9_endOfToken_48 : decode cX9_endOfToken 48 = .ok (.istore_n 2, 1) := by decide +kernel
theorem dX9_endOfToken_49 : decode cX9_endOfToken 49 = .ok (.iload_n 2, 1) := by decide +kernel
theorem dX9_endOfToken_50 : decode cX9_endOfToken 50 = .ok (.bipush 60, 2) := by decide +kernel
theorem dX9_endOfToken_52 : decode cX9_endOfToken 52 = .ok (.if_icmp .eq 9, 3) := by decide +kernel
theorem dX9_endOfToken_55 : decode cX9_endOfToken 55 = .ok (.iload_n 2, 1) := by decide +kernel
theorem dX9_endOfToken_56 : decode cX9_endOfToken 56 = .ok (.bipush 62, 2) := by decide +kernel
theorem dX9_endOfToken_58 : decode cX9_endOfToken 58 = .ok (.if_icmp .ne 22, 3) := by decide +kernel
theorem dX9_endOfToken_61 : decode cX9_endOfToken 61 = .ok (.aload_n 0, 1) := by decide +kernel
theorem dX9_endOfToken_62 : decode cX9_endOfToken 62 = .ok (.getfield 27, 3) := by decide +kernel
theorem dX9_endOfToken_65 : decode cX9_endOfToken 65 = .ok (.iload_n 1, 1) := by decide +kernel
theorem dX9_endOfToken_66 : decode cX9_endOfToken 66 = .ok (.iconst 1, 1) := by decide +kernel
theorem dX9_endOfToken_67 : decode cX9_endOfToken 67 = .ok (.iadd, 1) := by decide +kernel
theorem dX9_endOfToken_68 : decode cX9_endOfToken 68 = .ok (.invokevirtual 82, 3) := by decide +kernel
theorem dX9_endOfToken_71 : decode cX9_endOfToken 71 = .ok (.bipush 61, 2) := by decide +kernel
theorem dX9_endOfToken_73 : decode cX9_endOfToken 73 = .ok (.if_icmp .ne 7, 3) := by decide +kernel
theorem dX9_endOfToken_76 : decode cX9_endOfToken 76 = .ok (.iconst 1, 1) := by decide +kernel
theorem dX9_endOfToken_77 : decode cX9_endOfToken 77 = .ok (.goto 4, 3) := by decide +kernel
theorem dX9_endOfToken_80 : decode cX9_endOfToken 80 = .ok (.iconst 0, 1) := by decide +kernel
theorem dX9_endOfToken_81 : decode cX9_endOfToken 81 = .ok (.istore_n 3, 1) := by decide +kernel
theorem dX9_endOfToken_82 : decode cX9_endOfToken 82 = .ok (.iload_n 1, 1) := by decide +kernel
theorem dX9_endOfToken_83 : decode cX9_endOfToken 83 = .ok (.iload_n 3, 1) := by decide +kernel
theorem dX9_endOfToken_84 : decode cX9_endOfToken 84 = .ok (.ifCond .eq 7, 3) := by decide +kernel
theorem dX9_endOfToken_87 : decode cX9_endOfToken 87 = .ok (.iconst 2, 1) := by decide +kernel
theorem dX9_endOfToken_88 : decode cX9_endOfToken 88 = .ok (.goto 4, 3) := by decide +kernel
theorem dX9_endOfToken_91 : decode cX9_endOfToken 91 = .ok (.iconst 1, 1) := by decide +kernel
theorem dX9_endOfToken_92 : decode cX9_endOfToken 92 = .ok (.iadd, 1) := by decide +kernel
theorem dX9_endOfToken_93 : decode cX9_endOfToken 93 = .ok (.ireturn, 1) := by decide +kernel
theorem dX9_kindBetween_0 : decode cX9_kindBetween 0 = .ok (.aload_n 0, 1) := by decide +kernel
theorem dX9_kindBetween_1 : decode cX9_kindBetween 1 = .ok (.getfield 27, 3) := by decide +kernel
theorem dX9_kindBetween_4 : decode cX9_kindBetween 4 = .ok (.iload_n 1, 1) := by decide +kernel
theorem dX9_kindBetween_5 : decode cX9_kindBetween 5 = .ok (.invokevirtual 69, 3) := by decide +kernel
theorem dX9_kindBetween_8 : decode cX9_kindBetween 8 = .ok (.ifCond .eq 27, 3) := by decide +kernel
theorem dX9_kindBetween_11 : decode cX9_kindBetween 11 = .ok (.iload_n 2, 1) := by decide +kernel
theorem dX9_kindBetween_12 : decode cX9_kindBetween 12 = .ok (.iload_n 1, 1) := by decide +kernel
theorem dX9_kindBetween_13 : decode cX9_kindBetween 13 = .ok (.isub, 1) := by decide +kernel
theorem dX9_kindBetween_14 : decode cX9_kindBetween 14 = .ok (.bipush 10, 2) := by decide +kernel
theorem dX9_kindBetween_16 : decode cX9_kindBetween 16 = .ok (.if_icmp .le 9, 3) := by decide +kernel
theorem dX9_kindBetween_19 : decode cX9_kindBetween 19 = .ok (.getstatic 51, 3) := by decide +kernel
theorem dX9_kindBetween_22 : decode cX9_kindBetween 22 = .ok (.goto 12, 3) := by decide +kernel
theorem dX9_kindBetween_25 : decode cX9_kindBetween 25 = .ok (.aload_n 0, 1) := by decide +kernel
theorem dX9_kindBetween_26 : decode cX9_kindBetween 26 = .ok (.iload_n 1, 1) := by decide +kernel
theorem dX9_kindBetween_27 : decode cX9_kindBetween 27 = .ok (.iload_n 2, 1) := by decide +kernel
theorem dX9_kindBetween_28 : decode cX9_kindBetween 28 = .ok (.getstatic 85, 3) := by decide +kernel
theorem dX9_kindBetween_31 : decode cX9_kindBetween 31 = .ok (.invokevirtual 88, 3) := by decide +kernel
theorem dX9_kindBetween_34 : decode cX9_kindBetween 34 = .ok (.areturn, 1) := by decide +kernel
theorem dX9_kindBetween_35 : decode cX9_kindBetween 35 = .ok (.aload_n 0, 1) := by decide +kernel
theorem dX9_kindBetween_36 : decode cX9_kindBetween 36 = .ok (.getfield 27, 3) := by decide +kernel
theorem dX9_kindBetween_39 : decode cX9_kindBetween 39 = .ok (.iload_n 1, 1) := by decide +kernel
theorem dX9_kindBetween_40 : decode cX9_kindBetween 40 = .ok (.invokevirtual 76, 3) := by decide +kernel
theorem dX9_kindBetween_43 : decode cX9_kindBetween 43 = .ok (.ifCond .eq 21, 3) := by decide +kernel
theorem dX9_kindBetween_46 : decode cX9_kindBetween 46 = .ok (.iload_n 2, 1) := by decide +kernel
theorem dX9_kindBetween_47 : decode cX9_kindBetween 47 = .ok (.iload_n 1, 1) := by decide +kernel
theorem dX9_kindBetween_48 : decode cX9_kindBetween 48 = .ok (.isub, 1) := by decide +kernel
theorem dX9_kindBetween_49 : decode cX9_kindBetween 49 = .ok (.bipush 6, 2) := by decide +kernel
theorem dX9_kindBetween_51 : decode cX9_kindBetween 51 = .ok (.if_icmp .le 9, 3) := by decide +kernel
theorem dX9_kindBetween_54 : decode cX9_kindBetween 54 = .ok (.getstatic 51, 3) := by decide +kernel
theorem dX9_kindBetween_57 : decode cX9_kindBetween 57 = .ok (.goto 6, 3) := by decide +kernel
theorem dX9_kindBetween_60 : decode cX9_kindBetween 60 = .ok (.getstatic 62, 3) := by decide +kernel
theorem dX9_kindBetween_63 : decode cX9_kindBetween 63 = .ok (.areturn, 1) := by decide +kernel
theorem dX9_kindBetween_64 : decode cX9_kindBetween 64 = .ok (.aload_n 0, 1) := by decide +kernel
theorem dX9_kindBetween_65 : decode cX9_kindBetween 65 = .ok (.iload_n 1, 1) := by decide +kernel
theorem dX9_kindBetween_66 : decode cX9_kindBetween 66 = .ok (.iload_n 2, 1) := by decide +kernel
theorem dX9_kindBetween_67 : decode cX9_kindBetween 67 = .ok (.getstatic 51, 3) := by decide +kernel
theorem dX9_kindBetween_70 : decode cX9_kindBetween 70 = .ok (.invokevirtual 88, 3) := by decide +kernel
theorem dX9_kindBetween_73 : decode cX9_kindBetween 73 = .ok (.areturn, 1) := by decide +kernel
theorem dX9_kindWritten_0 : decode cX9_kindWritten 0 = .ok (.getstatic 92, 3) := by decide +kernel
theorem dX9_kindWritten_3 : decode cX9_kindWritten 3 = .ok (.astore 4, 2) := by decide +kernel
theorem dX9_kindWritten_5 : decode cX9_kindWritten 5 = .ok (.aload 4, 2) := by decide +kernel
theorem dX9_kindWritten_7 : decode cX9_kindWritten 7 = .ok (.arraylength, 1) := by decide +kernel
theorem dX9_kindWritten_8 : decode cX9_kindWritten 8 = .ok (.istore 5, 2) := by decide +kernel
theorem dX9_kindWritten_10 : decode cX9_kindWritten 10 = .ok (.iconst 0, 1) := by decide +kernel
theorem dX9_kindWritten_11 : decode cX9_kindWritten 11 = .ok (.istore 6, 2) := by decide +kernel
theorem dX9_kindWritten_13 : decode cX9_kindWritten 13 = .ok (.iload 6, 2) := by decide +kernel
theorem dX9_kindWritten_15 : decode cX9_kindWritten 15 = .ok (.iload 5, 2) := by decide +kernel
theorem dX9_kindWritten_17 : decode cX9_kindWritten 17 = .ok (.if_icmp .ge 36, 3) := by decide +kernel
theorem dX9_kindWritten_20 : decode cX9_kindWritten 20 = .ok (.aload 4, 2) := by decide +kernel
theorem dX9_kindWritten_22 : decode cX9_kindWritten 22 = .ok (.iload 6, 2) := by decide +kernel
theorem dX9_kindWritten_24 : decode cX9_kindWritten 24 = .ok (.aaload, 1) := by decide +kernel
theorem dX9_kindWritten_25 : decode cX9_kindWritten 25 = .ok (.astore 7, 2) := by decide +kernel
theorem dX9_kindWritten_27 : decode cX9_kindWritten 27 = .ok (.aload_n 0, 1) := by decide +kernel
theorem dX9_kindWritten_28 : decode cX9_kindWritten 28 = .ok (.getfield 27, 3) := by decide +kernel
theorem dX9_kindWritten_31 : decode cX9_kindWritten 31 = .ok (.aload 7, 2) := by decide +kernel
theorem dX9_kindWritten_33 : decode cX9_kindWritten 33 = .ok (.getfield 95, 3) := by decide +kernel
theorem dX9_kindWritten_36 : decode cX9_kindWritten 36 = .ok (.iload_n 1, 1) := by decide +kernel
theorem dX9_kindWritten_37 : decode cX9_kindWritten 37 = .ok (.iload_n 2, 1) := by decide +kernel
theorem dX9_kindWritten_38 : decode cX9_kindWritten 38 = .ok (.invokevirtual 99, 3) := by decide +kernel
theorem dX9_kindWritten_41 : decode cX9_kindWritten 41 = .ok (.ifCond .eq 6, 3) := by decide +kernel
theorem dX9_kindWritten_44 : decode cX9_kindWritten 44 = .ok (.aload 7, 2) := by decide +kernel
theorem dX9_kindWritten_46 : decode cX9_kindWritten 46 = .ok (.areturn, 1) := by decide +kernel
theorem dX9_kindWritten_47 : decode cX9_kindWritten 47 = .ok (.iinc 6 1, 3) := by decide +kernel
theorem dX9_kindWritten_50 : decode cX9_kindWritten 50 = .ok (.goto (-37), 3) := by decide +kernel
theorem dX9_kindWritten_53 : decode cX9_kindWritten 53 = .ok (.aload_n 3, 1) := by decide +kernel
theorem dX9_kindWritten_54 : decode cX9_kindWritten 54 = .ok (.areturn, 1) := by decide +kernel
theorem dX9_numberBetween_0 : decode cX9_numberBetween 0 = .ok (.iconst 0, 1) := by decide +kernel
theorem dX9_numberBetween_1 : decode cX9_numberBetween 1 = .ok (.istore_n 3, 1) := by decide +kernel
theorem dX9_numberBetween_2 : decode cX9_numberBetween 2 = .ok (.iload_n 1, 1) := by decide +kernel
theorem dX9_numberBetween_3 : decode cX9_numberBetween 3 = .ok (.istore 4, 2) := by decide +kernel
theorem dX9_numberBetween_5 : decode cX9_numberBetween 5 = .ok (.iload 4, 2) := by decide +kernel
theorem dX9_numberBetween_7 : decode cX9_numberBetween 7 = .ok (.iload_n 2, 1) := by decide +kernel
theorem dX9_numberBetween_8 : decode cX9_numberBetween 8 = .ok (.if_icmp .ge 27, 3) := by decide +kernel
theorem dX9_numberBetween_11 : decode cX9_numberBetween 11 = .ok (.iload_n 3, 1) := by decide +kernel
theorem dX9_numberBetween_12 : decode cX9_numberBetween 12 = .ok (.bipush 10, 2) := by decide +kernel
theorem dX9_numberBetween_14 : decode cX9_numberBetween 14 = .ok (.imul, 1) := by decide +kernel
theorem dX9_numberBetween_15 : decode cX9_numberBetween 15 = .ok (.aload_n 0, 1) := by decide +kernel
theorem dX9_numberBetween_16 : decode cX9_numberBetween 16 = .ok (.getfield 27, 3) := by decide +kernel
theorem dX9_numberBetween_19 : decode cX9_numberBetween 19 = .ok (.iload 4, 2) := by decide +kernel
theorem dX9_numberBetween_21 : decode cX9_numberBetween 21 = .ok (.invokevirtual 82, 3) := by decide +kernel
theorem dX9_numberBetween_24 : decode cX9_numberBetween 24 = .ok (.bipush 48, 2) := by decide +kernel
theorem dX9_numberBetween_26 : decode cX9_numberBetween 26 = .ok (.isub, 1) := by decide +kernel
theorem dX9_numberBetween_27 : decode cX9_numberBetween 27 = .ok (.iadd, 1) := by decide +kernel
theorem dX9_numberBetween_28 : decode cX9_numberBetween 28 = .ok (.istore_n 3, 1) := by decide +kernel
theorem dX9_numberBetween_29 : decode cX9_numberBetween 29 = .ok (.iinc 4 1, 3) := by decide +kernel
theorem dX9_numberBetween_32 : decode cX9_numberBetween 32 = .ok (.goto (-27), 3) := by decide +kernel
theorem dX9_numberBetween_35 : decode cX9_numberBetween 35 = .ok (.iload_n 3, 1) := by decide +kernel
theorem dX9_numberBetween_36 : decode cX9_numberBetween 36 = .ok (.ireturn, 1) := by decide +kernel
theorem dX9_kindOf_0 : decode cX9_kindOf 0 = .ok (.iload_n 1, 1) := by decide +kernel
theorem dX9_kindOf_1 : decode cX9_kindOf 1 = .ok (.ifCond .lt 20, 3) := by decide +kernel
theorem dX9_kindOf_4 : decode cX9_kindOf 4 = .ok (.iload_n 1, 1) := by decide +kernel
theorem dX9_kindOf_5 : decode cX9_kindOf 5 = .ok (.aload_n 0, 1) := by decide +kernel
theorem dX9_kindOf_6 : decode cX9_kindOf 6 = .ok (.getfield 31, 3) := by decide +kernel
theorem dX9_kindOf_9 : decode cX9_kindOf 9 = .ok (.if_icmp .ge 12, 3) := by decide +kernel
theorem dX9_kindOf_12 : decode cX9_kindOf 12 = .ok (.aload_n 0, 1) := by decide +kernel
theorem dX9_kindOf_13 : decode cX9_kindOf 13 = .ok (.getfield 11, 3) := by decide +kernel
theorem dX9_kindOf_16 : decode cX9_kindOf 16 = .ok (.iload_n 1, 1) := by decide +kernel
theorem dX9_kindOf_17 : decode cX9_kindOf 17 = .ok (.aaload, 1) := by decide +kernel
theorem dX9_kindOf_18 : decode cX9_kindOf 18 = .ok (.goto 6, 3) := by decide +kernel
theorem dX9_kindOf_21 : decode cX9_kindOf 21 = .ok (.getstatic 51, 3) := by decide +kernel
theorem dX9_kindOf_24 : decode cX9_kindOf 24 = .ok (.areturn, 1) := by decide +kernel
theorem dX9_startOf_0 : decode cX9_startOf 0 = .ok (.iload_n 1, 1) := by decide +kernel
theorem dX9_startOf_1 : decode cX9_startOf 1 = .ok (.ifCond .lt 20, 3) := by decide +kernel
theorem dX9_startOf_4 : decode cX9_startOf 4 = .ok (.iload_n 1, 1) := by decide +kernel
theorem dX9_startOf_5 : decode cX9_startOf 5 = .ok (.aload_n 0, 1) := by decide +kernel
theorem dX9_startOf_6 : decode cX9_startOf 6 = .ok (.getfield 31, 3) := by decide +kernel
theorem dX9_startOf_9 : decode cX9_startOf 9 = .ok (.if_icmp .ge 12, 3) := by decide +kernel
theorem dX9_startOf_12 : decode cX9_startOf 12 = .ok (.aload_n 0, 1) := by decide +kernel
theorem dX9_startOf_13 : decode cX9_startOf 13 = .ok (.getfield 17, 3) := by decide +kernel
theorem dX9_startOf_16 : decode cX9_startOf 16 = .ok (.iload_n 1, 1) := by decide +kernel
theorem dX9_startOf_17 : decode cX9_startOf 17 = .ok (.iaload, 1) := by decide +kernel
theorem dX9_startOf_18 : decode cX9_startOf 18 = .ok (.goto 10, 3) := by decide +kernel
theorem dX9_startOf_21 : decode cX9_startOf 21 = .ok (.aload_n 0, 1) := by decide +kernel
theorem dX9_startOf_22 : decode cX9_startOf 22 = .ok (.getfield 27, 3) := by decide +kernel
theorem dX9_startOf_25 : decode cX9_startOf 25 = .ok (.getfield 41, 3) := by decide +kernel
theorem dX9_startOf_28 : decode cX9_startOf 28 = .ok (.ireturn, 1) := by decide +kernel
theorem dX9_valueOf_0 : decode cX9_valueOf 0 = .ok (.iload_n 1, 1) := by decide +kernel
theorem dX9_valueOf_1 : decode cX9_valueOf 1 = .ok (.ifCond .lt 20, 3) := by decide +kernel
theorem dX9_valueOf_4 : decode cX9_valueOf 4 = .ok (.iload_n 1, 1) := by decide +kernel
theorem dX9_valueOf_5 : decode cX9_valueOf 5 = .ok (.aload_n 0, 1) := by decide +kernel
theorem dX9_valueOf_6 : decode cX9_valueOf 6 = .ok (.getfield 31, 3) := by decide +kernel
theorem dX9_valueOf_9 : decode cX9_valueOf 9 = .ok (.if_icmp .ge 12, 3) := by decide +kernel
theorem dX9_valueOf_12 : decode cX9_valueOf 12 = .ok (.aload_n 0, 1) := by decide +kernel
theorem dX9_valueOf_13 : decode cX9_valueOf 13 = .ok (.getfield 24, 3) := by decide +kernel
theorem dX9_valueOf_16 : decode cX9_valueOf 16 = .ok (.iload_n 1, 1) := by decide +kernel
theorem dX9_valueOf_17 : decode cX9_valueOf 17 = .ok (.iaload, 1) := by decide +kernel
theorem dX9_valueOf_18 : decode cX9_valueOf 18 = .ok (.goto 4, 3) := by decide +kernel
theorem dX9_valueOf_21 : decode cX9_valueOf 21 = .ok (.iconst 0, 1) := by decide +kernel
theorem dX9_valueOf_22 : decode cX9_valueOf 22 = .ok (.ireturn, 1) := by decide +kernel
theorem dX9_setValue_0 : decode cX9_setValue 0 = .ok (.iload_n 1, 1) := by decide +kernel
theorem dX9_setValue_1 : decode cX9_setValue 1 = .ok (.ifCond .lt 18, 3) := by decide +kernel
theorem dX9_setValue_4 : decode cX9_setValue 4 = .ok (.iload_n 1, 1) := by decide +kernel
theorem dX9_setValue_5 : decode cX9_setValue 5 = .ok (.aload_n 0, 1) := by decide +kernel
theorem dX9_setValue_6 : decode cX9_setValue 6 = .ok (.getfield 31, 3) := by decide +kernel
theorem dX9_setValue_9 : decode cX9_setValue 9 = .ok (.if_icmp .ge 10, 3) := by decide +kernel
theorem dX9_setValue_12 : decode cX9_setValue 12 = .ok (.aload_n 0, 1) := by decide +kernel
theorem dX9_setValue_13 : decode cX9_setValue 13 = .ok (.getfield 24, 3) := by decide +kernel
theorem dX9_setValue_16 : decode cX9_setValue 16 = .ok (.iload_n 1, 1) := by decide +kernel
theorem dX9_setValue_17 : decode cX9_setValue 17 = .ok (.iload_n 2, 1) := by decide +kernel
theorem dX9_setValue_18 : decode cX9_setValue 18 = .ok (.iastore, 1) := by decide +kernel
theorem dX9_setValue_19 : decode cX9_setValue 19 = .ok (.return_, 1) := by decide +kernel
theorem dX9_areSameWords_0 : decode cX9_areSameWords 0 = .ok (.iload_n 1, 1) := by decide +kernel
theorem dX9_areSameWords_1 : decode cX9_areSameWords 1 = .ok (.ifCond .lt 23, 3) := by decide +kernel
theorem dX9_areSameWords_4 : decode cX9_areSameWords 4 = .ok (.iload_n 1, 1) := by decide +kernel
theorem dX9_areSameWords_5 : decode cX9_areSameWords 5 = .ok (.aload_n 0, 1) := by decide +kernel
theorem dX9_areSameWords_6 : decode cX9_areSameWords 6 = .ok (.getfield 31, 3) := by decide +kernel
theorem dX9_areSameWords_9 : decode cX9_areSameWords 9 = .ok (.if_icmp .ge 15, 3) := by decide +kernel
theorem dX9_areSameWords_12 : decode cX9_areSameWords 12 = .ok (.iload_n 2, 1) := by decide +kernel
theorem dX9_areSameWords_13 : decode cX9_areSameWords 13 = .ok (.ifCond .lt 11, 3) := by decide +kernel
theorem dX9_areSameWords_16 : decode cX9_areSameWords 16 = .ok (.iload_n 2, 1) := by decide +kernel
theorem dX9_areSameWords_17 : decode cX9_areSameWords 17 = .ok (.aload_n 0, 1) := by decide +kernel
theorem dX9_areSameWords_18 : decode cX9_areSameWords 18 = .ok (.getfield 31, 3) := by decide +kernel
theorem dX9_areSameWords_21 : decode cX9_areSameWords 21 = .ok (.if_icmp .lt 5, 3) := by decide +kernel
theorem dX9_areSameWords_24 : decode cX9_areSameWords 24 = .ok (.iconst 0, 1) := by decide +kernel
theorem dX9_areSameWords_25 : decode cX9_areSameWords 25 = .ok (.ireturn, 1) := by decide +kernel
theorem dX9_areSameWords_26 : decode cX9_areSameWords 26 = .ok (.aload_n 0, 1) := by decide +kernel
theorem dX9_areSameWords_27 : decode cX9_areSameWords 27 = .ok (.getfield 21, 3) := by decide +kernel
theorem dX9_areSameWords_30 : decode cX9_areSameWords 30 = .ok (.iload_n 1, 1) := by decide +kernel
theorem dX9_areSameWords_31 : decode cX9_areSameWords 31 = .ok (.iaload, 1) := by decide +kernel
theorem dX9_areSameWords_32 : decode cX9_areSameWords 32 = .ok (.aload_n 0, 1) := by decide +kernel
theorem dX9_areSameWords_33 : decode cX9_areSameWords 33 = .ok (.getfield 17, 3) := by decide +kernel
theorem dX9_areSameWords_36 : decode cX9_areSameWords 36 = .ok (.iload_n 1, 1) := by decide +kernel
theorem dX9_areSameWords_37 : decode cX9_areSameWords 37 = .ok (.iaload, 1) := by decide +kernel
theorem dX9_areSameWords_38 : decode cX9_areSameWords 38 = .ok (.isub, 1) := by decide +kernel
theorem dX9_areSameWords_39 : decode cX9_areSameWords 39 = .ok (.istore_n 3, 1) := by decide +kernel
theorem dX9_areSameWords_40 : decode cX9_areSameWords 40 = .ok (.iload_n 3, 1) := by decide +kernel
theorem dX9_areSameWords_41 : decode cX9_areSameWords 41 = .ok (.aload_n 0, 1) := by decide +kernel
theorem dX9_areSameWords_42 : decode cX9_areSameWords 42 = .ok (.getfield 21, 3) := by decide +kernel
theorem dX9_areSameWords_45 : decode cX9_areSameWords 45 = .ok (.iload_n 2, 1) := by decide +kernel
theorem dX9_areSameWords_46 : decode cX9_areSameWords 46 = .ok (.iaload, 1) := by decide +kernel
theorem dX9_areSameWords_47 : decode cX9_areSameWords 47 = .ok (.aload_n 0, 1) := by decide +kernel
theorem dX9_areSameWords_48 : decode cX9_areSameWords 48 = .ok (.getfield 17, 3) := by decide +kernel
theorem dX9_areSameWords_51 : decode cX9_areSameWords 51 = .ok (.iload_n 2, 1) := by decide +kernel
theorem dX9_areSameWords_52 : decode cX9_areSameWords 52 = .ok (.iaload, 1) := by decide +kernel
theorem dX9_areSameWords_53 : decode cX9_areSameWords 53 = .ok (.isub, 1) := by decide +kernel
theorem dX9_areSameWords_54 : decode cX9_areSameWords 54 = .ok (.if_icmp .ne 30, 3) := by decide +kernel
theorem dX9_areSameWords_57 : decode cX9_areSameWords 57 = .ok (.aload_n 0, 1) := by decide +kernel
theorem dX9_areSameWords_58 : decode cX9_areSameWords 58 = .ok (.getfield 27, 3) := by decide +kernel
theorem dX9_areSameWords_61 : decode cX9_areSameWords 61 = .ok (.aload_n 0, 1) := by decide +kernel
theorem dX9_areSameWords_62 : decode cX9_areSameWords 62 = .ok (.getfield 17, 3) := by decide +kernel
theorem dX9_areSameWords_65 : decode cX9_areSameWords 65 = .ok (.iload_n 1, 1) := by decide +kernel
theorem dX9_areSameWords_66 : decode cX9_areSameWords 66 = .ok (.iaload, 1) := by decide +kernel
theorem dX9_areSameWords_67 : decode cX9_areSameWords 67 = .ok (.aload_n 0, 1) := by decide +kernel
theorem dX9_areSameWords_68 : decode cX9_areSameWords 68 = .ok (.getfield 17, 3) := by decide +kernel
theorem dX9_areSameWords_71 : decode cX9_areSameWords 71 = .ok (.iload_n 2, 1) := by decide +kernel
theorem dX9_areSameWords_72 : decode cX9_areSameWords 72 = .ok (.iaload, 1) := by decide +kernel
theorem dX9_areSameWords_73 : decode cX9_areSameWords 73 = .ok (.iload_n 3, 1) := by decide +kernel
theorem dX9_areSameWords_74 : decode cX9_areSameWords 74 = .ok (.invokevirtual 103, 3) := by decide +kernel
theorem dX9_areSameWords_77 : decode cX9_areSameWords 77 = .ok (.ifCond .eq 7, 3) := by decide +kernel
theorem dX9_areSameWords_80 : decode cX9_areSameWords 80 = .ok (.iconst 1, 1) := by decide +kernel
theorem dX9_areSameWords_81 : decode cX9_areSameWords 81 = .ok (.goto 4, 3) := by decide +kernel
theorem dX9_areSameWords_84 : decode cX9_areSameWords 84 = .ok (.iconst 0, 1) := by decide +kernel
theorem dX9_areSameWords_85 : decode cX9_areSameWords 85 = .ok (.ireturn, 1) := by decide +kernel
