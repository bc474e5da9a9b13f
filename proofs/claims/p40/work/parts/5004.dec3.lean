theorem dX10_init_0 : decode cX10_init 0 = .ok (.aload_n 0, 1) := by decide +kernel
theorem dX10_init_1 : decode cX10_init 1 = .ok (.invokespecial 1, 3) := by decide +kernel
theorem dX10_init_4 : decode cX10_init 4 = .ok (.aload_n 0, 1) := by decide +kernel
theorem dX10_init_5 : decode cX10_init 5 = .ok (.new 7, 3) := by decide +kernel
theorem dX10_init_8 : decode cX10_init 8 = .ok (.dup, 1) := by decide +kernel
theorem dX10_init_9 : decode cX10_init 9 = .ok (.invokespecial 9, 3) := by decide +kernel
theorem dX10_init_12 : decode cX10_init 12 = .ok (.putfield 10, 3) := by decide +kernel
theorem dX10_init_15 : decode cX10_init 15 = .ok (.aload_n 0, 1) := by decide +kernel
theorem dX10_init_16 : decode cX10_init 16 = .ok (.new 16, 3) := by decide +kernel
theorem dX10_init_19 : decode cX10_init 19 = .ok (.dup, 1) := by decide +kernel
theorem dX10_init_20 : decode cX10_init 20 = .ok (.aload_n 0, 1) := by decide +kernel
theorem dX10_init_21 : decode cX10_init 21 = .ok (.getfield 10, 3) := by decide +kernel
theorem dX10_init_24 : decode cX10_init 24 = .ok (.invokespecial 18, 3) := by decide +kernel
theorem dX10_init_27 : decode cX10_init 27 = .ok (.putfield 21, 3) := by decide +kernel
theorem dX10_init_30 : decode cX10_init 30 = .ok (.aload_n 0, 1) := by decide +kernel
theorem dX10_init_31 : decode cX10_init 31 = .ok (.new 25, 3) := by decide +kernel
theorem dX10_init_34 : decode cX10_init 34 = .ok (.dup, 1) := by decide +kernel
theorem dX10_init_35 : decode cX10_init 35 = .ok (.invokespecial 27, 3) := by decide +kernel
theorem dX10_init_38 : decode cX10_init 38 = .ok (.putfield 28, 3) := by decide +kernel
theorem dX10_init_41 : decode cX10_init 41 = .ok (.aload_n 0, 1) := by decide +kernel
theorem dX10_init_42 : decode cX10_init 42 = .ok (.new 32, 3) := by decide +kernel
theorem dX10_init_45 : decode cX10_init 45 = .ok (.dup, 1) := by decide +kernel
theorem dX10_init_46 : decode cX10_init 46 = .ok (.aload_n 0, 1) := by decide +kernel
theorem dX10_init_47 : decode cX10_init 47 = .ok (.getfield 21, 3) := by decide +kernel
theorem dX10_init_50 : decode cX10_init 50 = .ok (.aload_n 0, 1) := by decide +kernel
theorem dX10_init_51 : decode cX10_init 51 = .ok (.getfield 28, 3) := by decide +kernel
theorem dX10_init_54 : decode cX10_init 54 = .ok (.invokespecial 34, 3) := by decide +kernel
theorem dX10_init_57 : decode cX10_init 57 = .ok (.putfield 37, 3) := by decide +kernel
theorem dX10_init_60 : decode cX10_init 60 = .ok (.aload_n 0, 1) := by decide +kernel
theorem dX10_init_61 : decode cX10_init 61 = .ok (.new 41, 3) := by decide +kernel
theorem dX10_init_64 : decode cX10_init 64 = .ok (.dup, 1) := by decide +kernel
theorem dX10_init_65 : decode cX10_init 65 = .ok (.aload_n 0, 1) := by decide +kernel
theorem dX10_init_66 : decode cX10_init 66 = .ok (.getfield 21, 3) := by decide +kernel
theorem dX10_init_69 : decode cX10_init 69 = .ok (.aload_n 0, 1) := by decide +kernel
theorem dX10_init_70 : decode cX10_init 70 = .ok (.getfield 28, 3) := by decide +kernel
theorem dX10_init_73 : decode cX10_init 73 = .ok (.invokespecial 43, 3) := by decide +kernel
theorem dX10_init_76 : decode cX10_init 76 = .ok (.putfield 44, 3) := by decide +kernel
theorem dX10_init_79 : decode cX10_init 79 = .ok (.aload_n 0, 1) := by decide +kernel
theorem dX10_init_80 : decode cX10_init 80 = .ok (.new 48, 3) := by decide +kernel
theorem dX10_init_83 : decode cX10_init 83 = .ok (.dup, 1) := by decide +kernel
theorem dX10_init_84 : decode cX10_init 84 = .ok (.invokespecial 50, 3) := by decide +kernel
theorem dX10_init_87 : decode cX10_init 87 = .ok (.putfield 51, 3) := by decide +kernel
theorem dX10_init_90 : decode cX10_init 90 = .ok (.aload_n 0, 1) := by decide +kernel
theorem dX10_init_91 : decode cX10_init 91 = .ok (.new 55, 3) := by decide +kernel
theorem dX10_init_94 : decode cX10_init 94 = .ok (.dup, 1) := by decide +kernel
theorem dX10_init_95 : decode cX10_init 95 = .ok (.aload_n 0, 1) := by decide +kernel
theorem dX10_init_96 : decode cX10_init 96 = .ok (.getfield 51, 3) := by decide +kernel
theorem dX10_init_99 : decode cX10_init 99 = .ok (.invokespecial 57, 3) := by decide +kernel
theorem dX10_init_102 : decode cX10_init 102 = .ok (.putfield 60, 3) := by decide +kernel
theorem dX10_init_105 : decode cX10_init 105 = .ok (.aload_n 0, 1) := by decide +kernel
theorem dX10_init_106 : decode cX10_init 106 = .ok (.iconst (-1), 1) := by decide +kernel
theorem dX10_init_107 : decode cX10_init 107 = .ok (.putfield 64, 3) := by decide +kernel
theorem dX10_init_110 : decode cX10_init 110 = .ok (.return_, 1) := by decide +kernel
theorem dX10_feed_0 : decode cX10_feed 0 = .ok (.aload_n 0, 1) := by decide +kernel
theorem dX10_feed_1 : decode cX10_feed 1 = .ok (.getfield 10, 3) := by decide +kernel
theorem dX10_feed_4 : decode cX10_feed 4 = .ok (.bipush 20, 2) := by decide +kernel
theorem dX10_feed_6 : decode cX10_feed 6 = .ok (.invokevirtual 68, 3) := by decide +kernel
theorem dX10_feed_9 : decode cX10_feed 9 = .ok (.ifCond .ne 13, 3) := by decide +kernel
theorem dX10_feed_12 : decode cX10_feed 12 = .ok (.new 72, 3) := by decide +kernel
theorem dX10_feed_15 : decode cX10_feed 15 = .ok (.dup, 1) := by decide +kernel
theorem dX10_feed_16 : decode cX10_feed 16 = .ok (.ldc 74, 2) := by decide +kernel
theorem dX10_feed_18 : decode cX10_feed 18 = .ok (.invokespecial 76, 3) := by decide +kernel
theorem dX10_feed_21 : decode cX10_feed 21 = .ok (.athrow, 1) := by decide +kernel
theorem dX10_feed_22 : decode cX10_feed 22 = .ok (.aload_n 0, 1) := by decide +kernel
theorem dX10_feed_23 : decode cX10_feed 23 = .ok (.getfield 10, 3) := by decide +kernel
theorem dX10_feed_26 : decode cX10_feed 26 = .ok (.iload_n 1, 1) := by decide +kernel
theorem dX10_feed_27 : decode cX10_feed 27 = .ok (.invokevirtual 79, 3) := by decide +kernel
theorem dX10_feed_30 : decode cX10_feed 30 = .ok (.aload_n 0, 1) := by decide +kernel
theorem dX10_feed_31 : decode cX10_feed 31 = .ok (.getfield 10, 3) := by decide +kernel
theorem dX10_feed_34 : decode cX10_feed 34 = .ok (.iload_n 2, 1) := by decide +kernel
theorem dX10_feed_35 : decode cX10_feed 35 = .ok (.invokevirtual 79, 3) := by decide +kernel
theorem dX10_feed_38 : decode cX10_feed 38 = .ok (.aload_n 0, 1) := by decide +kernel
theorem dX10_feed_39 : decode cX10_feed 39 = .ok (.getfield 10, 3) := by decide +kernel
theorem dX10_feed_42 : decode cX10_feed 42 = .ok (.iload_n 3, 1) := by decide +kernel
theorem dX10_feed_43 : decode cX10_feed 43 = .ok (.invokevirtual 79, 3) := by decide +kernel
theorem dX10_feed_46 : decode cX10_feed 46 = .ok (.aload_n 0, 1) := by decide +kernel
theorem dX10_feed_47 : decode cX10_feed 47 = .ok (.getfield 10, 3) := by decide +kernel
theorem dX10_feed_50 : decode cX10_feed 50 = .ok (.iload 4, 2) := by decide +kernel
theorem dX10_feed_52 : decode cX10_feed 52 = .ok (.invokevirtual 79, 3) := by decide +kernel
theorem dX10_feed_55 : decode cX10_feed 55 = .ok (.aload_n 0, 1) := by decide +kernel
theorem dX10_feed_56 : decode cX10_feed 56 = .ok (.getfield 10, 3) := by decide +kernel
theorem dX10_feed_59 : decode cX10_feed 59 = .ok (.iload 5, 2) := by decide +kernel
theorem dX10_feed_61 : decode cX10_feed 61 = .ok (.invokevirtual 79, 3) := by decide +kernel
theorem dX10_feed_64 : decode cX10_feed 64 = .ok (.aload_n 0, 1) := by decide +kernel
theorem dX10_feed_65 : decode cX10_feed 65 = .ok (.getfield 10, 3) := by decide +kernel
theorem dX10_feed_68 : decode cX10_feed 68 = .ok (.getfield 83, 3) := by decide +kernel
theorem dX10_feed_71 : decode cX10_feed 71 = .ok (.ireturn, 1) := by decide +kernel
theorem dX10_trim_0 : decode cX10_trim 0 = .ok (.iload_n 1, 1) := by decide +kernel
theorem dX10_trim_1 : decode cX10_trim 1 = .ok (.ifCond .lt 14, 3) := by decide +kernel
theorem dX10_trim_4 : decode cX10_trim 4 = .ok (.iload_n 1, 1) := by decide +kernel
theorem dX10_trim_5 : decode cX10_trim 5 = .ok (.aload_n 0, 1) := by decide +kernel
theorem dX10_trim_6 : decode cX10_trim 6 = .ok (.getfield 10, 3) := by decide +kernel
theorem dX10_trim_9 : decode cX10_trim 9 = .ok (.getfield 83, 3) := by decide +kernel
theorem dX10_trim_12 : decode cX10_trim 12 = .ok (.if_icmp .le 13, 3) := by decide +kernel
theorem dX10_trim_15 : decode cX10_trim 15 = .ok (.new 86, 3) := by decide +kernel
theorem dX10_trim_18 : decode cX10_trim 18 = .ok (.dup, 1) := by decide +kernel
theorem dX10_trim_19 : decode cX10_trim 19 = .ok (.ldc 88, 2) := by decide +kernel
theorem dX10_trim_21 : decode cX10_trim 21 = .ok (.invokespecial 90, 3) := by decide +kernel
theorem dX10_trim_24 : decode cX10_trim 24 = .ok (.athrow, 1) := by decide +kernel
theorem dX10_trim_25 : decode cX10_trim 25 = .ok (.aload_n 0, 1) := by decide +kernel
theorem dX10_trim_26 : decode cX10_trim 26 = .ok (.getfield 10, 3) := by decide +kernel
theorem dX10_trim_29 : decode cX10_trim 29 = .ok (.iload_n 1, 1) := by decide +kernel
theorem dX10_trim_30 : decode cX10_trim 30 = .ok (.putfield 83, 3) := by decide +kernel
theorem dX10_trim_33 : decode cX10_trim 33 = .ok (.iload_n 1, 1) := by decide +kernel
theorem dX10_trim_34 : decode cX10_trim 34 = .ok (.ireturn, 1) := by decide +kernel
theorem dX10_teach_0 : decode cX10_teach 0 = .ok (.aload_n 0, 1) := by decide +kernel
theorem dX10_teach_1 : decode cX10_teach 1 = .ok (.getfield 21, 3) := by decide +kernel
theorem dX10_teach_4 : decode cX10_teach 4 = .ok (.invokevirtual 91, 3) := by decide +kernel
theorem dX10_teach_7 : decode cX10_teach 7 = .ok (.aload_n 0, 1) := by decide +kernel
theorem dX10_teach_8 : decode cX10_teach 8 = .ok (.getfield 28, 3) := by decide +kernel
theorem dX10_teach_11 : decode cX10_teach 11 = .ok (.invokevirtual 94, 3) := by decide +kernel
theorem dX10_teach_14 : decode cX10_teach 14 = .ok (.aload_n 0, 1) := by decide +kernel
theorem dX10_teach_15 : decode cX10_teach 15 = .ok (.getfield 37, 3) := by decide +kernel
theorem dX10_teach_18 : decode cX10_teach 18 = .ok (.invokevirtual 97, 3) := by decide +kernel
theorem dX10_teach_21 : decode cX10_teach 21 = .ok (.ifCond .eq 13, 3) := by decide +kernel
theorem dX10_teach_24 : decode cX10_teach 24 = .ok (.aload_n 0, 1) := by decide +kernel
theorem dX10_teach_25 : decode cX10_teach 25 = .ok (.getfield 44, 3) := by decide +kernel
theorem dX10_teach_28 : decode cX10_teach 28 = .ok (.invokevirtual 101, 3) := by decide +kernel
theorem dX10_teach_31 : decode cX10_teach 31 = .ok (.goto 4, 3) := by decide +kernel
theorem dX10_teach_34 : decode cX10_teach 34 = .ok (.iconst 1, 1) := by decide +kernel
theorem dX10_teach_35 : decode cX10_teach 35 = .ok (.istore_n 1, 1) := by decide +kernel
theorem dX10_teach_36 : decode cX10_teach 36 = .ok (.iload_n 1, 1) := by decide +kernel
theorem dX10_teach_37 : decode cX10_teach 37 = .ok (.iconst 1, 1) := by decide +kernel
theorem dX10_teach_38 : decode cX10_teach 38 = .ok (.if_icmp .ne 13, 3) := by decide +kernel
theorem dX10_teach_41 : decode cX10_teach 41 = .ok (.aload_n 0, 1) := by decide +kernel
theorem dX10_teach_42 : decode cX10_teach 42 = .ok (.getfield 37, 3) := by decide +kernel
theorem dX10_teach_45 : decode cX10_teach 45 = .ok (.getfield 105, 3) := by decide +kernel
theorem dX10_teach_48 : decode cX10_teach 48 = .ok (.goto 10, 3) := by decide +kernel
theorem dX10_teach_51 : decode cX10_teach 51 = .ok (.aload_n 0, 1) := by decide +kernel
theorem dX10_teach_52 : decode cX10_teach 52 = .ok (.getfield 44, 3) := by decide +kernel
theorem dX10_teach_55 : decode cX10_teach 55 = .ok (.getfield 108, 3) := by decide +kernel
theorem dX10_teach_58 : decode cX10_teach 58 = .ok (.istore_n 2, 1) := by decide +kernel
theorem dX10_teach_59 : decode cX10_teach 59 = .ok (.aload_n 0, 1) := by decide +kernel
theorem dX10_teach_60 : decode cX10_teach 60 = .ok (.iload_n 1, 1) := by decide +kernel
theorem dX10_teach_61 : decode cX10_teach 61 = .ok (.ifCond .ne 7, 3) := by decide +kernel
theorem dX10_teach_64 : decode cX10_teach 64 = .ok (.iconst (-1), 1) := by decide +kernel
theorem dX10_teach_65 : decode cX10_teach 65 = .ok (.goto 11, 3) := by decide +kernel
theorem dX10_teach_68 : decode cX10_teach 68 = .ok (.aload_n 0, 1) := by decide +kernel
theorem dX10_teach_69 : decode cX10_teach 69 = .ok (.getfield 21, 3) := by decide +kernel
theorem dX10_teach_72 : decode cX10_teach 72 = .ok (.iload_n 2, 1) := by decide +kernel
theorem dX10_teach_73 : decode cX10_teach 73 = .ok (.invokevirtual 111, 3) := by decide +kernel
theorem dX10_teach_76 : decode cX10_teach 76 = .ok (.putfield 64, 3) := by decide +kernel
theorem dX10_teach_79 : decode cX10_teach 79 = .ok (.iload_n 1, 1) := by decide +kernel
theorem dX10_teach_80 : decode cX10_teach 80 = .ok (.ifCond .ne 14, 3) := by decide +kernel
theorem dX10_teach_83 : decode cX10_teach 83 = .ok (.aload_n 0, 1) := by decide +kernel
theorem dX10_teach_84 : decode cX10_teach 84 = .ok (.getfield 60, 3) := by decide +kernel
theorem dX10_teach_87 : decode cX10_teach 87 = .ok (.aload_n 0, 1) := by decide +kernel
theorem dX10_teach_88 : decode cX10_teach 88 = .ok (.getfield 28, 3) := by decide +kernel
theorem dX10_teach_91 : decode cX10_teach 91 = .ok (.invokevirtual 115, 3) := by decide +kernel
theorem dX10_teach_94 : decode cX10_teach 94 = .ok (.aload_n 0, 1) := by decide +kernel
theorem dX10_teach_95 : decode cX10_teach 95 = .ok (.getfield 10, 3) := by decide +kernel
theorem dX10_teach_98 : decode cX10_teach 98 = .ok (.iconst 0, 1) := by decide +kernel
theorem dX10_teach_99 : decode cX10_teach 99 = .ok (.putfield 83, 3) := by decide +kernel
theorem dX10_teach_102 : decode cX10_teach 102 = .ok (.iload_n 1, 1) := by decide +kernel
theorem dX10_teach_103 : decode cX10_teach 103 = .ok (.ireturn, 1) := by decide +kernel
theorem dX10_columns_0 : decode cX10_columns 0 = .ok (.aload_n 0, 1) := by decide +kernel
theorem dX10_columns_1 : decode cX10_columns 1 = .ok (.getfield 51, 3) := by decide +kernel
theorem dX10_columns_4 : decode cX10_columns 4 = .ok (.getfield 119, 3) := by decide +kernel
theorem dX10_columns_7 : decode cX10_columns 7 = .ok (.ireturn, 1) := by decide +kernel
theorem dX10_rows_0 : decode cX10_rows 0 = .ok (.aload_n 0, 1) := by decide +kernel
theorem dX10_rows_1 : decode cX10_rows 1 = .ok (.getfield 51, 3) := by decide +kernel
theorem dX10_rows_4 : decode cX10_rows 4 = .ok (.getfield 122, 3) := by decide +kernel
theorem dX10_rows_7 : decode cX10_rows 7 = .ok (.ireturn, 1) := by decide +kernel
theorem dX10_tiles_0 : decode cX10_tiles 0 = .ok (.aload_n 0, 1) := by decide +kernel
theorem dX10_tiles_1 : decode cX10_tiles 1 = .ok (.getfield 51, 3) := by decide +kernel
theorem dX10_tiles_4 : decode cX10_tiles 4 = .ok (.getfield 125, 3) := by decide +kernel
theorem dX10_tiles_7 : decode cX10_tiles 7 = .ok (.ireturn, 1) := by decide +kernel
theorem dX10_rounds_0 : decode cX10_rounds 0 = .ok (.aload_n 0, 1) := by decide +kernel
theorem dX10_rounds_1 : decode cX10_rounds 1 = .ok (.getfield 60, 3) := by decide +kernel
theorem dX10_rounds_4 : decode cX10_rounds 4 = .ok (.getfield 128, 3) := by decide +kernel
theorem dX10_rounds_7 : decode cX10_rounds 7 = .ok (.ireturn, 1) := by decide +kernel
theorem dX10_placedTiles_0 : decode cX10_placedTiles 0 = .ok (.aload_n 0, 1) := by decide +kernel
theorem dX10_placedTiles_1 : decode cX10_placedTiles 1 = .ok (.getfield 51, 3) := by decide +kernel
theorem dX10_placedTiles_4 : decode cX10_placedTiles 4 = .ok (.getfield 131, 3) := by decide +kernel
theorem dX10_placedTiles_7 : decode cX10_placedTiles 7 = .ok (.ireturn, 1) := by decide +kernel
theorem dX10_matches_0 : decode cX10_matches 0 = .ok (.aload_n 0, 1) := by decide +kernel
theorem dX10_matches_1 : decode cX10_matches 1 = .ok (.getfield 51, 3) := by decide +kernel
theorem dX10_matches_4 : decode cX10_matches 4 = .ok (.invokevirtual 134, 3) := by decide +kernel
theorem dX10_matches_7 : decode cX10_matches 7 = .ok (.ireturn, 1) := by decide +kernel
theorem dX10_points_0 : decode cX10_points 0 = .ok (.aload_n 0, 1) := by decide +kernel
theorem dX10_points_1 : decode cX10_points 1 = .ok (.getfield 51, 3) := by decide +kernel
theorem dX10_points_4 : decode cX10_points 4 = .ok (.invokevirtual 137, 3) := by decide +kernel
theorem dX10_points_7 : decode cX10_points 7 = .ok (.ireturn, 1) := by decide +kernel
theorem dX10_rings_0 : decode cX10_rings 0 = .ok (.aload_n 0, 1) := by decide +kernel
theorem dX10_rings_1 : decode cX10_rings 1 = .ok (.getfield 51, 3) := by decide +kernel
theorem dX10_rings_4 : decode cX10_rings 4 = .ok (.invokevirtual 140, 3) := by decide +kernel
theorem dX10_rings_7 : decode cX10_rings 7 = .ok (.ireturn, 1) := by decide +kernel
theorem dX10_groups_0 : decode cX10_groups 0 = .ok (.aload_n 0, 1) := by decide +kernel
theorem dX10_groups_1 : decode cX10_groups 1 = .ok (.getfield 51, 3) := by decide +kernel
theorem dX10_groups_4 : decode cX10_groups 4 = .ok (.invokevirtual 143, 3) := by decide +kernel
theorem dX10_groups_7 : decode cX10_groups 7 = .ok (.ireturn, 1) := by decide +kernel
theorem dX10_hasTile_0 : decode cX10_hasTile 0 = .ok (.aload_n 0, 1) := by decide +kernel
theorem dX10_hasTile_1 : decode cX10_hasTile 1 = .ok (.iload_n 1, 1) := by decide +kernel
theorem dX10_hasTile_2 : decode cX10_hasTile 2 = .ok (.invokevirtual 146, 3) := by decide +kernel
theorem dX10_hasTile_5 : decode cX10_hasTile 5 = .ok (.aload_n 0, 1) := by decide +kernel
theorem dX10_hasTile_6 : decode cX10_hasTile 6 = .ok (.getfield 51, 3) := by decide +kernel
theorem dX10_hasTile_9 : decode cX10_hasTile 9 = .ok (.getfield 149, 3) := by decide +kernel
theorem dX10_hasTile_12 : decode cX10_hasTile 12 = .ok (.iload_n 1, 1) := by decide +kernel
theorem dX10_hasTile_13 : decode cX10_hasTile 13 = .ok (.iaload, 1) := by decide +kernel
theorem dX10_hasTile_14 : decode cX10_hasTile 14 = .ok (.ifCond .lt 7, 3) := by decide +kernel
theorem dX10_hasTile_17 : decode cX10_hasTile 17 = .ok (.iconst 1, 1) := by decide +kernel
theorem dX10_hasTile_18 : decode cX10_hasTile 18 = .ok (.goto 4, 3) := by decide +kernel
theorem dX10_hasTile_21 : decode cX10_hasTile 21 = .ok (.iconst 0, 1) := by decide +kernel
theorem dX10_hasTile_22 : decode cX10_hasTile 22 = .ok (.ireturn, 1) := by decide +kernel
theorem dX10_tileAt_0 : decode cX10_tileAt 0 = .ok (.aload_n 0, 1) := by decide +kernel
theorem dX10_tileAt_1 : decode cX10_tileAt 1 = .ok (.iload_n 1, 1) := by decide +kernel
theorem dX10_tileAt_2 : decode cX10_tileAt 2 = .ok (.invokevirtual 146, 3) := by decide +kernel
theorem dX10_tileAt_5 : decode cX10_tileAt 5 = .ok (.aload_n 0, 1) := by decide +kernel
theorem dX10_tileAt_6 : decode cX10_tileAt 6 = .ok (.iload_n 1, 1) := by decide +kernel
theorem dX10_tileAt_7 : decode cX10_tileAt 7 = .ok (.invokevirtual 153, 3) := by decide +kernel
theorem dX10_tileAt_10 : decode cX10_tileAt 10 = .ok (.aload_n 0, 1) := by decide +kernel
theorem dX10_tileAt_11 : decode cX10_tileAt 11 = .ok (.getfield 51, 3) := by decide +kernel
theorem dX10_tileAt_14 : decode cX10_tileAt 14 = .ok (.getfield 149, 3) := by decide +kernel
theorem dX10_tileAt_17 : decode cX10_tileAt 17 = .ok (.iload_n 1, 1) := by decide +kernel
theorem dX10_tileAt_18 : decode cX10_tileAt 18 = .ok (.iaload, 1) := by decide +kernel
theorem dX10_tileAt_19 : decode cX10_tileAt 19 = .ok (.ireturn, 1) := by decide +kernel
theorem dX10_numberAt_0 : decode cX10_numberAt 0 = .ok (.aload_n 0, 1) := by decide +kernel
theorem dX10_numberAt_1 : decode cX10_numberAt 1 = .ok (.iload_n 1, 1) := by decide +kernel
theorem dX10_numberAt_2 : decode cX10_numberAt 2 = .ok (.invokevirtual 146, 3) := by decide +kernel
theorem dX10_numberAt_5 : decode cX10_numberAt 5 = .ok (.aload_n 0, 1) := by decide +kernel
theorem dX10_numberAt_6 : decode cX10_numberAt 6 = .ok (.iload_n 2, 1) := by decide +kernel
theorem dX10_numberAt_7 : decode cX10_numberAt 7 = .ok (.invokevirtual 156, 3) := by decide +kernel
theorem dX10_numberAt_10 : decode cX10_numberAt 10 = .ok (.aload_n 0, 1) := by decide +kernel
theorem dX10_numberAt_11 : decode cX10_numberAt 11 = .ok (.iload_n 1, 1) := by decide +kernel
theorem dX10_numberAt_12 : decode cX10_numberAt 12 = .ok (.invokevirtual 153, 3) := by decide +kernel
theorem dX10_numberAt_15 : decode cX10_numberAt 15 = .ok (.aload_n 0, 1) := by decide +kernel
theorem dX10_numberAt_16 : decode cX10_numberAt 16 = .ok (.getfield 51, 3) := by decide +kernel
theorem dX10_numberAt_19 : decode cX10_numberAt 19 = .ok (.getfield 149, 3) := by decide +kernel
theorem dX10_numberAt_22 : decode cX10_numberAt 22 = .ok (.iload_n 1, 1) := by decide +kernel
theorem dX10_numberAt_23 : decode cX10_numberAt 23 = .ok (.iaload, 1) := by decide +kernel
theorem dX10_numberAt_24 : decode cX10_numberAt 24 = .ok (.istore_n 3, 1) := by decide +kernel
theorem dX10_numberAt_25 : decode cX10_numberAt 25 = .ok (.aload_n 0, 1) := by decide +kernel
theorem dX10_numberAt_26 : decode cX10_numberAt 26 = .ok (.getfield 51, 3) := by decide +kernel
theorem dX10_numberAt_29 : decode cX10_numberAt 29 = .ok (.iload_n 3, 1) := by decide +kernel
theorem dX10_numberAt_30 : decode cX10_numberAt 30 = .ok (.iload_n 2, 1) := by decide +kernel
theorem dX10_numberAt_31 : decode cX10_numberAt 31 = .ok (.aload_n 0, 1) := by decide +kernel
theorem dX10_numberAt_32 : decode cX10_numberAt 32 = .ok (.getfield 51, 3) := by decide +kernel
theorem dX10_numberAt_35 : decode cX10_numberAt 35 = .ok (.getfield 159, 3) := by decide +kernel
theorem dX10_numberAt_38 : decode cX10_numberAt 38 = .ok (.iload_n 3, 1) := by decide +kernel
theorem dX10_numberAt_39 : decode cX10_numberAt 39 = .ok (.iaload, 1) := by decide +kernel
theorem dX10_numberAt_40 : decode cX10_numberAt 40 = .ok (.invokevirtual 162, 3) := by decide +kernel
theorem dX10_numberAt_43 : decode cX10_numberAt 43 = .ok (.ireturn, 1) := by decide +kernel
theorem dX10_matchesOf_0 : decode cX10_matchesOf 0 = .ok (.aload_n 0, 1) := by decide +kernel
theorem dX10_matchesOf_1 : decode cX10_matchesOf 1 = .ok (.iload_n 1, 1) := by decide +kernel
theorem dX10_matchesOf_2 : decode cX10_matchesOf 2 = .ok (.invokevirtual 146, 3) := by decide +kernel
theorem dX10_matchesOf_5 : decode cX10_matchesOf 5 = .ok (.aload_n 0, 1) := by decide +kernel
theorem dX10_matchesOf_6 : decode cX10_matchesOf 6 = .ok (.getfield 51, 3) := by decide +kernel
theorem dX10_matchesOf_9 : decode cX10_matchesOf 9 = .ok (.iload_n 1, 1) := by decide +kernel
theorem dX10_matchesOf_10 : decode cX10_matchesOf 10 = .ok (.invokevirtual 166, 3) := by decide +kernel
theorem dX10_matchesOf_13 : decode cX10_matchesOf 13 = .ok (.ireturn, 1) := by decide +kernel
theorem dX10_isRing_0 : decode cX10_isRing 0 = .ok (.aload_n 0, 1) := by decide +kernel
theorem dX10_isRing_1 : decode cX10_isRing 1 = .ok (.iload_n 1, 1) := by decide +kernel
theorem dX10_isRing_2 : decode cX10_isRing 2 = .ok (.invokevirtual 146, 3) := by decide +kernel
theorem dX10_isRing_5 : decode cX10_isRing 5 = .ok (.aload_n 0, 1) := by decide +kernel
theorem dX10_isRing_6 : decode cX10_isRing 6 = .ok (.getfield 51, 3) := by decide +kernel
theorem dX10_isRing_9 : decode cX10_isRing 9 = .ok (.iload_n 1, 1) := by decide +kernel
theorem dX10_isRing_10 : decode cX10_isRing 10 = .ok (.invokevirtual 169, 3) := by decide +kernel
theorem dX10_isRing_13 : decode cX10_isRing 13 = .ok (.ireturn, 1) := by decide +kernel
theorem dX10_isPlaced_0 : decode cX10_isPlaced 0 = .ok (.aload_n 0, 1) := by decide +kernel
theorem dX10_isPlaced_1 : decode cX10_isPlaced 1 = .ok (.iload_n 1, 1) := by decide +kernel
theorem dX10_isPlaced_2 : decode cX10_isPlaced 2 = .ok (.invokevirtual 172, 3) := by decide +kernel
theorem dX10_isPlaced_5 : decode cX10_isPlaced 5 = .ok (.aload_n 0, 1) := by decide +kernel
theorem dX10_isPlaced_6 : decode cX10_isPlaced 6 = .ok (.getfield 51, 3) := by decide +kernel
theorem dX10_isPlaced_9 : decode cX10_isPlaced 9 = .ok (.iload_n 1, 1) := by decide +kernel
theorem dX10_isPlaced_10 : decode cX10_isPlaced 10 = .ok (.invokevirtual 175, 3) := by decide +kernel
theorem dX10_isPlaced_13 : decode cX10_isPlaced 13 = .ok (.ireturn, 1) := by decide +kernel
theorem dX10_cellOf_0 : decode cX10_cellOf 0 = .ok (.aload_n 0, 1) := by decide +kernel
theorem dX10_cellOf_1 : decode cX10_cellOf 1 = .ok (.iload_n 1, 1) := by decide +kernel
theorem dX10_cellOf_2 : decode cX10_cellOf 2 = .ok (.invokevirtual 172, 3) := by decide +kernel
theorem dX10_cellOf_5 : decode cX10_cellOf 5 = .ok (.aload_n 0, 1) := by decide +kernel
theorem dX10_cellOf_6 : decode cX10_cellOf 6 = .ok (.iload_n 1, 1) := by decide +kernel
theorem dX10_cellOf_7 : decode cX10_cellOf 7 = .ok (.invokevirtual 178, 3) := by decide +kernel
theorem dX10_cellOf_10 : decode cX10_cellOf 10 = .ok (.aload_n 0, 1) := by decide +kernel
theorem dX10_cellOf_11 : decode cX10_cellOf 11 = .ok (.getfield 51, 3) := by decide +kernel
theorem dX10_cellOf_14 : decode cX10_cellOf 14 = .ok (.getfield 181, 3) := by decide +kernel
theorem dX10_cellOf_17 : decode cX10_cellOf 17 = .ok (.iload_n 1, 1) := by decide +kernel
theorem dX10_cellOf_18 : decode cX10_cellOf 18 = .ok (.iaload, 1) := by decide +kernel
theorem dX10_cellOf_19 : decode cX10_cellOf 19 = .ok (.ireturn, 1) := by decide +kernel
theorem dX10_turnOf_0 : decode cX10_turnOf 0 = .ok (.aload_n 0, 1) := by decide +kernel
theorem dX10_turnOf_1 : decode cX10_turnOf 1 = .ok (.iload_n 1, 1) := by decide +kernel
theorem dX10_turnOf_2 : decode cX10_turnOf 2 = .ok (.invokevirtual 172, 3) := by decide +kernel
theorem dX10_turnOf_5 : decode cX10_turnOf 5 = .ok (.aload_n 0, 1) := by decide +kernel
theorem dX10_turnOf_6 : decode cX10_turnOf 6 = .ok (.iload_n 1, 1) := by decide +kernel
theorem dX10_turnOf_7 : decode cX10_turnOf 7 = .ok (.invokevirtual 178, 3) := by decide +kernel
theorem dX10_turnOf_10 : decode cX10_turnOf 10 = .ok (.aload_n 0, 1) := by decide +kernel
theorem dX10_turnOf_11 : decode cX10_turnOf 11 = .ok (.getfield 51, 3) := by decide +kernel
theorem dX10_turnOf_14 : decode cX10_turnOf 14 = .ok (.getfield 159, 3) := by decide +kernel
theorem dX10_turnOf_17 : decode cX10_turnOf 17 = .ok (.iload_n 1, 1) := by decide +kernel
theorem dX10_turnOf_18 : decode cX10_turnOf 18 = .ok (.iaload, 1) := by decide +kernel
theorem dX10_turnOf_19 : decode cX10_turnOf 19 = .ok (.ireturn, 1) := by decide +kernel
theorem dX10_fits_0 : decode cX10_fits 0 = .ok (.aload_n 0, 1) := by decide +kernel
theorem dX10_fits_1 : decode cX10_fits 1 = .ok (.iload_n 1, 1) := by decide +kernel
theorem dX10_fits_2 : decode cX10_fits 2 = .ok (.iload_n 2, 1) := by decide +kernel
theorem dX10_fits_3 : decode cX10_fits 3 = .ok (.iload_n 3, 1) := by decide +kernel
theorem dX10_fits_4 : decode cX10_fits 4 = .ok (.invokevirtual 184, 3) := by decide +kernel
theorem dX10_fits_7 : decode cX10_fits 7 = .ok (.aload_n 0, 1) := by decide +kernel
theorem dX10_fits_8 : decode cX10_fits 8 = .ok (.getfield 51, 3) := by decide +kernel
theorem dX10_fits_11 : decode cX10_fits 11 = .ok (.iload_n 1, 1) := by decide +kernel
theorem dX10_fits_12 : decode cX10_fits 12 = .ok (.iload_n 2, 1) := by decide +kernel
theorem dX10_fits_13 : decode cX10_fits 13 = .ok (.iload_n 3, 1) := by decide +kernel
theorem dX10_fits_14 : decode cX10_fits 14 = .ok (.invokevirtual 188, 3) := by decide +kernel
theorem dX10_fits_17 : decode cX10_fits 17 = .ok (.ireturn, 1) := by decide +kernel
theorem dX10_edgeAgainst_0 : decode cX10_edgeAgainst 0 = .ok (.aload_n 0, 1) := by decide +kernel
theorem dX10_edgeAgainst_1 : decode cX10_edgeAgainst 1 = .ok (.iload_n 1, 1) := by decide +kernel
theorem dX10_edgeAgainst_2 : decode cX10_edgeAgainst 2 = .ok (.iload_n 2, 1) := by decide +kernel
theorem dX10_edgeAgainst_3 : decode cX10_edgeAgainst 3 = .ok (.iload_n 3, 1) := by decide +kernel
theorem dX10_edgeAgainst_4 : decode cX10_edgeAgainst 4 = .ok (.invokevirtual 184, 3) := by decide +kernel
theorem dX10_edgeAgainst_7 : decode cX10_edgeAgainst 7 = .ok (.aload_n 0, 1) := by decide +kernel
theorem dX10_edgeAgainst_8 : decode cX10_edgeAgainst 8 = .ok (.getfield 51, 3) := by decide +kernel
theorem dX10_edgeAgainst_11 : decode cX10_edgeAgainst 11 = .ok (.iload_n 1, 1) := by decide +kernel
theorem dX10_edgeAgainst_12 : decode cX10_edgeAgainst 12 = .ok (.iload_n 2, 1) := by decide +kernel
theorem dX10_edgeAgainst_13 : decode cX10_edgeAgainst 13 = .ok (.iload_n 3, 1) := by decide +kernel
theorem dX10_edgeAgainst_14 : decode cX10_edgeAgainst 14 = .ok (.invokevirtual 192, 3) := by decide +kernel
theorem dX10_edgeAgainst_17 : decode cX10_edgeAgainst 17 = .ok (.ireturn, 1) := by decide +kernel
theorem dX10_waysOf_0 : decode cX10_waysOf 0 = .ok (.aload_n 0, 1) := by decide +kernel
theorem dX10_waysOf_1 : decode cX10_waysOf 1 = .ok (.iload_n 1, 1) := by decide +kernel
theorem dX10_waysOf_2 : decode cX10_waysOf 2 = .ok (.invokevirtual 172, 3) := by decide +kernel
theorem dX10_waysOf_5 : decode cX10_waysOf 5 = .ok (.aload_n 0, 1) := by decide +kernel
theorem dX10_waysOf_6 : decode cX10_waysOf 6 = .ok (.getfield 51, 3) := by decide +kernel
theorem dX10_waysOf_9 : decode cX10_waysOf 9 = .ok (.iload_n 1, 1) := by decide +kernel
theorem dX10_waysOf_10 : decode cX10_waysOf 10 = .ok (.invokevirtual 195, 3) := by decide +kernel
theorem dX10_waysOf_13 : decode cX10_waysOf 13 = .ok (.ireturn, 1) := by decide +kernel
theorem dX10_isLeftover_0 : decode cX10_isLeftover 0 = .ok (.aload_n 0, 1) := by decide +kernel
theorem dX10_isLeftover_1 : decode cX10_isLeftover 1 = .ok (.iload_n 1, 1) := by decide +kernel
theorem dX10_isLeftover_2 : decode cX10_isLeftover 2 = .ok (.invokevirtual 172, 3) := by decide +kernel
theorem dX10_isLeftover_5 : decode cX10_isLeftover 5 = .ok (.aload_n 0, 1) := by decide +kernel
theorem dX10_isLeftover_6 : decode cX10_isLeftover 6 = .ok (.getfield 51, 3) := by decide +kernel
theorem dX10_isLeftover_9 : decode cX10_isLeftover 9 = .ok (.iload_n 1, 1) := by decide +kernel
theorem dX10_isLeftover_10 : decode cX10_isLeftover 10 = .ok (.invokevirtual 175, 3) := by decide +kernel
theorem dX10_isLeftover_13 : decode cX10_isLeftover 13 = .ok (.ifCond .ne 18, 3) := by decide +kernel
theorem dX10_isLeftover_16 : decode cX10_isLeftover 16 = .ok (.aload_n 0, 1) := by decide +kernel
theorem dX10_isLeftover_17 : decode cX10_isLeftover 17 = .ok (.getfield 51, 3) := by decide +kernel
theorem dX10_isLeftover_20 : decode cX10_isLeftover 20 = .ok (.iload_n 1, 1) := by decide +kernel
theorem dX10_isLeftover_21 : decode cX10_isLeftover 21 = .ok (.invokevirtual 198, 3) := by decide +kernel
theorem dX10_isLeftover_24 : decode cX10_isLeftover 24 = .ok (.ifCond .ge 7, 3) := by decide +kernel
theorem dX10_isLeftover_27 : decode cX10_isLeftover 27 = .ok (.iconst 1, 1) := by decide +kernel
theorem dX10_isLeftover_28 : decode cX10_isLeftover 28 = .ok (.goto 4, 3) := by decide +kernel
theorem dX10_isLeftover_31 : decode cX10_isLeftover 31 = .ok (.iconst 0, 1) := by decide +kernel
theorem dX10_isLeftover_32 : decode cX10_isLeftover 32 = .ok (.ireturn, 1) := by decide +kernel
theorem dX10_putTile_0 : decode cX10_putTile 0 = .ok (.aload_n 0, 1) := by decide +kernel
theorem dX10_putTile_1 : decode cX10_putTile 1 = .ok (.iload_n 1, 1) := by decide +kernel
theorem dX10_putTile_2 : decode cX10_putTile 2 = .ok (.iload_n 2, 1) := by decide +kernel
theorem dX10_putTile_3 : decode cX10_putTile 3 = .ok (.iload_n 3, 1) := by decide +kernel
theorem dX10_putTile_4 : decode cX10_putTile 4 = .ok (.invokevirtual 184, 3) := by decide +kernel
theorem dX10_putTile_7 : decode cX10_putTile 7 = .ok (.aload_n 0, 1) := by decide +kernel
theorem dX10_putTile_8 : decode cX10_putTile 8 = .ok (.getfield 51, 3) := by decide +kernel
theorem dX10_putTile_11 : decode cX10_putTile 11 = .ok (.iload_n 1, 1) := by decide +kernel
theorem dX10_putTile_12 : decode cX10_putTile 12 = .ok (.iload_n 2, 1) := by decide +kernel
theorem dX10_putTile_13 : decode cX10_putTile 13 = .ok (.iload_n 3, 1) := by decide +kernel
theorem dX10_putTile_14 : decode cX10_putTile 14 = .ok (.invokevirtual 188, 3) := by decide +kernel
theorem dX10_putTile_17 : decode cX10_putTile 17 = .ok (.ifCond .ne 13, 3) := by decide +kernel
theorem dX10_putTile_20 : decode cX10_putTile 20 = .ok (.new 72, 3) := by decide +kernel
theorem dX10_putTile_23 : decode cX10_putTile 23 = .ok (.dup, 1) := by decide +kernel
theorem dX10_putTile_24 : decode cX10_putTile 24 = .ok (.ldc 209, 2) := by decide +kernel
theorem dX10_putTile_26 : decode cX10_putTile 26 = .ok (.invokespecial 76, 3) := by decide +kernel
theorem dX10_putTile_29 : decode cX10_putTile 29 = .ok (.athrow, 1) := by decide +kernel
theorem dX10_putTile_30 : decode cX10_putTile 30 = .ok (.aload_n 0, 1) := by decide +kernel
theorem dX10_putTile_31 : decode cX10_putTile 31 = .ok (.getfield 51, 3) := by decide +kernel
theorem dX10_putTile_34 : decode cX10_putTile 34 = .ok (.iload_n 2, 1) := by decide +kernel
theorem dX10_putTile_35 : decode cX10_putTile 35 = .ok (.invokevirtual 211, 3) := by decide +kernel
theorem dX10_putTile_38 : decode cX10_putTile 38 = .ok (.istore 4, 2) := by decide +kernel
theorem dX10_putTile_40 : decode cX10_putTile 40 = .ok (.aload_n 0, 1) := by decide +kernel
theorem dX10_putTile_41 : decode cX10_putTile 41 = .ok (.getfield 51, 3) := by decide +kernel
theorem dX10_putTile_44 : decode cX10_putTile 44 = .ok (.iload_n 1, 1) := by decide +kernel
theorem dX10_putTile_45 : decode cX10_putTile 45 = .ok (.iload_n 2, 1) := by decide +kernel
theorem dX10_putTile_46 : decode cX10_putTile 46 = .ok (.iload_n 3, 1) := by decide +kernel
theorem dX10_putTile_47 : decode cX10_putTile 47 = .ok (.invokevirtual 214, 3) := by decide +kernel
theorem dX10_putTile_50 : decode cX10_putTile 50 = .ok (.iload 4, 2) := by decide +kernel
theorem dX10_putTile_52 : decode cX10_putTile 52 = .ok (.ireturn, 1) := by decide +kernel
theorem dX10_takeTile_0 : decode cX10_takeTile 0 = .ok (.aload_n 0, 1) := by decide +kernel
theorem dX10_takeTile_1 : decode cX10_takeTile 1 = .ok (.iload_n 1, 1) := by decide +kernel
theorem dX10_takeTile_2 : decode cX10_takeTile 2 = .ok (.invokevirtual 172, 3) := by decide +kernel
theorem dX10_takeTile_5 : decode cX10_takeTile 5 = .ok (.aload_n 0, 1) := by decide +kernel
theorem dX10_takeTile_6 : decode cX10_takeTile 6 = .ok (.iload_n 1, 1) := by decide +kernel
theorem dX10_takeTile_7 : decode cX10_takeTile 7 = .ok (.invokevirtual 178, 3) := by decide +kernel
theorem dX10_takeTile_10 : decode cX10_takeTile 10 = .ok (.aload_n 0, 1) := by decide +kernel
theorem dX10_takeTile_11 : decode cX10_takeTile 11 = .ok (.getfield 51, 3) := by decide +kernel
theorem dX10_takeTile_14 : decode cX10_takeTile 14 = .ok (.getfield 181, 3) := by decide +kernel
theorem dX10_takeTile_17 : decode cX10_takeTile 17 = .ok (.iload_n 1, 1) := by decide +kernel
theorem dX10_takeTile_18 : decode cX10_takeTile 18 = .ok (.iaload, 1) := by decide +kernel
theorem dX10_takeTile_19 : decode cX10_takeTile 19 = .ok (.istore_n 2, 1) := by decide +kernel
theorem dX10_takeTile_20 : decode cX10_takeTile 20 = .ok (.aload_n 0, 1) := by decide +kernel
theorem dX10_takeTile_21 : decode cX10_takeTile 21 = .ok (.getfield 51, 3) := by decide +kernel
theorem dX10_takeTile_24 : decode cX10_takeTile 24 = .ok (.iload_n 1, 1) := by decide +kernel
theorem dX10_takeTile_25 : decode cX10_takeTile 25 = .ok (.invokevirtual 217, 3) := by decide +kernel
theorem dX10_takeTile_28 : decode cX10_takeTile 28 = .ok (.aload_n 0, 1) := by decide +kernel
theorem dX10_takeTile_29 : decode cX10_takeTile 29 = .ok (.getfield 51, 3) := by decide +kernel
theorem dX10_takeTile_32 : decode cX10_takeTile 32 = .ok (.iload_n 2, 1) := by decide +kernel
theorem dX10_takeTile_33 : decode cX10_takeTile 33 = .ok (.invokevirtual 211, 3) := by decide +kernel
theorem dX10_takeTile_36 : decode cX10_takeTile 36 = .ok (.ireturn, 1) := by decide +kernel
theorem dX10_fitTile_0 : decode cX10_fitTile 0 = .ok (.aload_n 0, 1) := by decide +kernel
theorem dX10_fitTile_1 : decode cX10_fitTile 1 = .ok (.iload_n 1, 1) := by decide +kernel
theorem dX10_fitTile_2 : decode cX10_fitTile 2 = .ok (.invokevirtual 172, 3) := by decide +kernel
theorem dX10_fitTile_5 : decode cX10_fitTile 5 = .ok (.aload_n 0, 1) := by decide +kernel
theorem dX10_fitTile_6 : decode cX10_fitTile 6 = .ok (.getfield 51, 3) := by decide +kernel
theorem dX10_fitTile_9 : decode cX10_fitTile 9 = .ok (.iload_n 1, 1) := by decide +kernel
theorem dX10_fitTile_10 : decode cX10_fitTile 10 = .ok (.invokevirtual 198, 3) := by decide +kernel
theorem dX10_fitTile_13 : decode cX10_fitTile 13 = .ok (.istore_n 2, 1) := by decide +kernel
theorem dX10_fitTile_14 : decode cX10_fitTile 14 = .ok (.aload_n 0, 1) := by decide +kernel
theorem dX10_fitTile_15 : decode cX10_fitTile 15 = .ok (.iload_n 2, 1) := by decide +kernel
theorem dX10_fitTile_16 : decode cX10_fitTile 16 = .ok (.invokevirtual 220, 3) := by decide +kernel
theorem dX10_fitTile_19 : decode cX10_fitTile 19 = .ok (.aload_n 0, 1) := by decide +kernel
theorem dX10_fitTile_20 : decode cX10_fitTile 20 = .ok (.getfield 51, 3) := by decide +kernel
theorem dX10_fitTile_23 : decode cX10_fitTile 23 = .ok (.iload_n 1, 1) := by decide +kernel
theorem dX10_fitTile_24 : decode cX10_fitTile 24 = .ok (.iload_n 2, 1) := by decide +kernel
theorem dX10_fitTile_25 : decode cX10_fitTile 25 = .ok (.aload_n 0, 1) := by decide +kernel
theorem dX10_fitTile_26 : decode cX10_fitTile 26 = .ok (.getfield 51, 3) := by decide +kernel
theorem dX10_fitTile_29 : decode cX10_fitTile 29 = .ok (.iload_n 1, 1) := by decide +kernel
theorem dX10_fitTile_30 : decode cX10_fitTile 30 = .ok (.iload_n 2, 1) := by decide +kernel
theorem dX10_fitTile_31 : decode cX10_fitTile 31 = .ok (.invokevirtual 223, 3) := by decide +kernel
theorem dX10_fitTile_34 : decode cX10_fitTile 34 = .ok (.invokevirtual 214, 3) := by decide +kernel
theorem dX10_fitTile_37 : decode cX10_fitTile 37 = .ok (.iload_n 2, 1) := by decide +kernel
theorem dX10_fitTile_38 : decode cX10_fitTile 38 = .ok (.ireturn, 1) := by decide +kernel
theorem dX10_playRounds_0 : decode cX10_playRounds 0 = .ok (.aload_n 0, 1) := by decide +kernel
theorem dX10_playRounds_1 : decode cX10_playRounds 1 = .ok (.iload_n 1, 1) := by decide +kernel
theorem dX10_playRounds_2 : decode cX10_playRounds 2 = .ok (.invokevirtual 227, 3) := by decide +kernel
theorem dX10_playRounds_5 : decode cX10_playRounds 5 = .ok (.iconst 0, 1) := by decide +kernel
theorem dX10_playRounds_6 : decode cX10_playRounds 6 = .ok (.istore_n 2, 1) := by decide +kernel
theorem dX10_playRounds_7 : decode cX10_playRounds 7 = .ok (.iconst 0, 1) := by decide +kernel
theorem dX10_playRounds_8 : decode cX10_playRounds 8 = .ok (.istore_n 3, 1) := by decide +kernel
theorem dX10_playRounds_9 : decode cX10_playRounds 9 = .ok (.iload_n 3, 1) := by decide +kernel
theorem dX10_playRounds_10 : decode cX10_playRounds 10 = .ok (.iload_n 1, 1) := by decide +kernel
theorem dX10_playRounds_11 : decode cX10_playRounds 11 = .ok (.if_icmp .ge 19, 3) := by decide +kernel
theorem dX10_playRounds_14 : decode cX10_playRounds 14 = .ok (.iload_n 2, 1) := by decide +kernel
theorem dX10_playRounds_15 : decode cX10_playRounds 15 = .ok (.aload_n 0, 1) := by decide +kernel
theorem dX10_playRounds_16 : decode cX10_playRounds 16 = .ok (.getfield 60, 3) := by decide +kernel
theorem dX10_playRounds_19 : decode cX10_playRounds 19 = .ok (.invokevirtual 230, 3) := by decide +kernel
theorem dX10_playRounds_22 : decode cX10_playRounds 22 = .ok (.iadd, 1) := by decide +kernel
theorem dX10_playRounds_23 : decode cX10_playRounds 23 = .ok (.istore_n 2, 1) := by decide +kernel
theorem dX10_playRounds_24 : decode cX10_playRounds 24 = .ok (.iinc 3 1, 3) := by decide +kernel
theorem dX10_playRounds_27 : decode cX10_playRounds 27 = .ok (.goto (-18), 3) := by decide +kernel
theorem dX10_playRounds_30 : decode cX10_playRounds 30 = .ok (.iload_n 2, 1) := by decide +kernel
theorem dX10_playRounds_31 : decode cX10_playRounds 31 = .ok (.ireturn, 1) := by decide +kernel
theorem dX10_pointsAfter_0 : decode cX10_pointsAfter 0 = .ok (.aload_n 0, 1) := by decide +kernel
theorem dX10_pointsAfter_1 : decode cX10_pointsAfter 1 = .ok (.iload_n 1, 1) := by decide +kernel
theorem dX10_pointsAfter_2 : decode cX10_pointsAfter 2 = .ok (.invokevirtual 227, 3) := by decide +kernel
theorem dX10_pointsAfter_5 : decode cX10_pointsAfter 5 = .ok (.aload_n 0, 1) := by decide +kernel
theorem dX10_pointsAfter_6 : decode cX10_pointsAfter 6 = .ok (.getfield 60, 3) := by decide +kernel
theorem dX10_pointsAfter_9 : decode cX10_pointsAfter 9 = .ok (.invokevirtual 233, 3) := by decide +kernel
theorem dX10_pointsAfter_12 : decode cX10_pointsAfter 12 = .ok (.iconst 0, 1) := by decide +kernel
theorem dX10_pointsAfter_13 : decode cX10_pointsAfter 13 = .ok (.istore_n 2, 1) := by decide +kernel
theorem dX10_pointsAfter_14 : decode cX10_pointsAfter 14 = .ok (.iload_n 2, 1) := by decide +kernel
theorem dX10_pointsAfter_15 : decode cX10_pointsAfter 15 = .ok (.iload_n 1, 1) := by decide +kernel
theorem dX10_pointsAfter_16 : decode cX10_pointsAfter 16 = .ok (.if_icmp .ge 17, 3) := by decide +kernel
theorem dX10_pointsAfter_19 : decode cX10_pointsAfter 19 = .ok (.aload_n 0, 1) := by decide +kernel
theorem dX10_pointsAfter_20 : decode cX10_pointsAfter 20 = .ok (.getfield 60, 3) := by decide +kernel
theorem dX10_pointsAfter_23 : decode cX10_pointsAfter 23 = .ok (.invokevirtual 230, 3) := by decide +kernel
theorem dX10_pointsAfter_26 : decode cX10_pointsAfter 26 = .ok (.pop, 1) := by decide +kernel
theorem dX10_pointsAfter_27 : decode cX10_pointsAfter 27 = .ok (.iinc 2 1, 3) := by decide +kernel
theorem dX10_pointsAfter_30 : decode cX10_pointsAfter 30 = .ok (.goto (-16), 3) := by decide +kernel
theorem dX10_pointsAfter_33 : decode cX10_pointsAfter 33 = .ok (.aload_n 0, 1) := by decide +kernel
theorem dX10_pointsAfter_34 : decode cX10_pointsAfter 34 = .ok (.getfield 51, 3) := by decide +kernel
theorem dX10_pointsAfter_37 : decode cX10_pointsAfter 37 = .ok (.invokevirtual 137, 3) := by decide +kernel
theorem dX10_pointsAfter_40 : decode cX10_pointsAfter 40 = .ok (.istore_n 2, 1) := by decide +kernel
theorem dX10_pointsAfter_41 : decode cX10_pointsAfter 41 = .ok (.aload_n 0, 1) := by decide +kernel
theorem dX10_pointsAfter_42 : decode cX10_pointsAfter 42 = .ok (.getfield 60, 3) := by decide +kernel
theorem dX10_pointsAfter_45 : decode cX10_pointsAfter 45 = .ok (.invokevirtual 236, 3) := by decide +kernel
theorem dX10_pointsAfter_48 : decode cX10_pointsAfter 48 = .ok (.iload_n 2, 1) := by decide +kernel
theorem dX10_pointsAfter_49 : decode cX10_pointsAfter 49 = .ok (.ireturn, 1) := by decide +kernel
theorem dX10_roundsUntilRing_0 : decode cX10_roundsUntilRing 0 = .ok (.aload_n 0, 1) := by decide +kernel
theorem dX10_roundsUntilRing_1 : decode cX10_roundsUntilRing 1 = .ok (.getfield 60, 3) := by decide +kernel
theorem dX10_roundsUntilRing_4 : decode cX10_roundsUntilRing 4 = .ok (.invokevirtual 233, 3) := by decide +kernel
theorem dX10_roundsUntilRing_7 : decode cX10_roundsUntilRing 7 = .ok (.iconst 0, 1) := by decide +kernel
theorem dX10_roundsUntilRing_8 : decode cX10_roundsUntilRing 8 = .ok (.istore_n 1, 1) := by decide +kernel
theorem dX10_roundsUntilRing_9 : decode cX10_roundsUntilRing 9 = .ok (.iload_n 1, 1) := by decide +kernel
theorem dX10_roundsUntilRing_10 : decode cX10_roundsUntilRing 10 = .ok (.bipush 20, 2) := by decide +kernel
theorem dX10_roundsUntilRing_12 : decode cX10_roundsUntilRing 12 = .ok (.if_icmp .ge 27, 3) := by decide +kernel
theorem dX10_roundsUntilRing_15 : decode cX10_roundsUntilRing 15 = .ok (.aload_n 0, 1) := by decide +kernel
theorem dX10_roundsUntilRing_16 : decode cX10_roundsUntilRing 16 = .ok (.getfield 51, 3) := by decide +kernel
theorem dX10_roundsUntilRing_19 : decode cX10_roundsUntilRing 19 = .ok (.invokevirtual 140, 3) := by decide +kernel
theorem dX10_roundsUntilRing_22 : decode cX10_roundsUntilRing 22 = .ok (.ifCond .ne 17, 3) := by decide +kernel
theorem dX10_roundsUntilRing_25 : decode cX10_roundsUntilRing 25 = .ok (.aload_n 0, 1) := by decide +kernel
theorem dX10_roundsUntilRing_26 : decode cX10_roundsUntilRing 26 = .ok (.getfield 60, 3) := by decide +kernel
theorem dX10_roundsUntilRing_29 : decode cX10_roundsUntilRing 29 = .ok (.invokevirtual 230, 3) := by decide +kernel
theorem dX10_roundsUntilRing_32 : decode cX10_roundsUntilRing 32 = .ok (.pop, 1) := by decide +kernel
theorem dX10_roundsUntilRing_33 : decode cX10_roundsUntilRing 33 = .ok (.iinc 1 1, 3) := by decide +kernel
theorem dX10_roundsUntilRing_36 : decode cX10_roundsUntilRing 36 = .ok (.goto (-27), 3) := by decide +kernel
theorem dX10_roundsUntilRing_39 : decode cX10_roundsUntilRing 39 = .ok (.aload_n 0, 1) := by decide +kernel
theorem dX10_roundsUntilRing_40 : decode cX10_roundsUntilRing 40 = .ok (.getfield 51, 3) := by decide +kernel
theorem dX10_roundsUntilRing_43 : decode cX10_roundsUntilRing 43 = .ok (.invokevirtual 140, 3) := by decide +kernel
theorem dX10_roundsUntilRing_46 : decode cX10_roundsUntilRing 46 = .ok (.ifCond .le 7, 3) := by decide +kernel
theorem dX10_roundsUntilRing_49 : decode cX10_roundsUntilRing 49 = .ok (.iconst 1, 1) := by decide +kernel
theorem dX10_roundsUntilRing_50 : decode cX10_roundsUntilRing 50 = .ok (.goto 4, 3) := by decide +kernel
theorem dX10_roundsUntilRing_53 : decode cX10_roundsUntilRing 53 = .ok (.iconst 0, 1) := by decide +kernel
theorem dX10_roundsUntilRing_54 : decode cX10_roundsUntilRing 54 = .ok (.istore_n 2, 1) := by decide +kernel
theorem dX10_roundsUntilRing_55 : decode cX10_roundsUntilRing 55 = .ok (.aload_n 0, 1) := by decide +kernel
theorem dX10_roundsUntilRing_56 : decode cX10_roundsUntilRing 56 = .ok (.getfield 60, 3) := by decide +kernel
theorem dX10_roundsUntilRing_59 : decode cX10_roundsUntilRing 59 = .ok (.invokevirtual 236, 3) := by decide +kernel
theorem dX10_roundsUntilRing_62 : decode cX10_roundsUntilRing 62 = .ok (.iload_n 2, 1) := by decide +kernel
theorem dX10_roundsUntilRing_63 : decode cX10_roundsUntilRing 63 = .ok (.ifCond .eq 7, 3) := by decide +kernel
theorem dX10_roundsUntilRing_66 : decode cX10_roundsUntilRing 66 = .ok (.iload_n 1, 1) := by decide +kernel
theorem dX10_roundsUntilRing_67 : decode cX10_roundsUntilRing 67 = .ok (.goto 4, 3) := by decide +kernel
theorem dX10_roundsUntilRing_70 : decode cX10_roundsUntilRing 70 = .ok (.iconst (-1), 1) := by decide +kernel
theorem dX10_roundsUntilRing_71 : decode cX10_roundsUntilRing 71 = .ok (.ireturn, 1) := by decide +kernel
theorem dX10_bestCell_0 : decode cX10_bestCell 0 = .ok (.aload_n 0, 1) := by decide +kernel
theorem dX10_bestCell_1 : decode cX10_bestCell 1 = .ok (.iload_n 1, 1) := by decide +kernel
theorem dX10_bestCell_2 : decode cX10_bestCell 2 = .ok (.invokevirtual 172, 3) := by decide +kernel
theorem dX10_bestCell_5 : decode cX10_bestCell 5 = .ok (.aload_n 0, 1) := by decide +kernel
theorem dX10_bestCell_6 : decode cX10_bestCell 6 = .ok (.getfield 51, 3) := by decide +kernel
theorem dX10_bestCell_9 : decode cX10_bestCell 9 = .ok (.iload_n 1, 1) := by decide +kernel
theorem dX10_bestCell_10 : decode cX10_bestCell 10 = .ok (.invokevirtual 239, 3) := by decide +kernel
theorem dX10_bestCell_13 : decode cX10_bestCell 13 = .ok (.istore_n 2, 1) := by decide +kernel
theorem dX10_bestCell_14 : decode cX10_bestCell 14 = .ok (.aload_n 0, 1) := by decide +kernel
theorem dX10_bestCell_15 : decode cX10_bestCell 15 = .ok (.iload_n 2, 1) := by decide +kernel
theorem dX10_bestCell_16 : decode cX10_bestCell 16 = .ok (.invokevirtual 220, 3) := by decide +kernel
theorem dX10_bestCell_19 : decode cX10_bestCell 19 = .ok (.iload_n 2, 1) := by decide +kernel
theorem dX10_bestCell_20 : decode cX10_bestCell 20 = .ok (.ireturn, 1) := by decide +kernel
theorem dX10_bestTurn_0 : decode cX10_bestTurn 0 = .ok (.aload_n 0, 1) := by decide +kernel
theorem dX10_bestTurn_1 : decode cX10_bestTurn 1 = .ok (.iload_n 1, 1) := by decide +kernel
theorem dX10_bestTurn_2 : decode cX10_bestTurn 2 = .ok (.invokevirtual 172, 3) := by decide +kernel
theorem dX10_bestTurn_5 : decode cX10_bestTurn 5 = .ok (.aload_n 0, 1) := by decide +kernel
theorem dX10_bestTurn_6 : decode cX10_bestTurn 6 = .ok (.getfield 51, 3) := by decide +kernel
theorem dX10_bestTurn_9 : decode cX10_bestTurn 9 = .ok (.iload_n 1, 1) := by decide +kernel
theorem dX10_bestTurn_10 : decode cX10_bestTurn 10 = .ok (.invokevirtual 239, 3) := by decide +kernel
theorem dX10_bestTurn_13 : decode cX10_bestTurn 13 = .ok (.istore_n 2, 1) := by decide +kernel
theorem dX10_bestTurn_14 : decode cX10_bestTurn 14 = .ok (.aload_n 0, 1) := by decide +kernel
theorem dX10_bestTurn_15 : decode cX10_bestTurn 15 = .ok (.iload_n 2, 1) := by decide +kernel
theorem dX10_bestTurn_16 : decode cX10_bestTurn 16 = .ok (.invokevirtual 220, 3) := by decide +kernel
theorem dX10_bestTurn_19 : decode cX10_bestTurn 19 = .ok (.aload_n 0, 1) := by decide +kernel
theorem dX10_bestTurn_20 : decode cX10_bestTurn 20 = .ok (.getfield 51, 3) := by decide +kernel
theorem dX10_bestTurn_23 : decode cX10_bestTurn 23 = .ok (.iload_n 1, 1) := by decide +kernel
theorem dX10_bestTurn_24 : decode cX10_bestTurn 24 = .ok (.iload_n 2, 1) := by decide +kernel
theorem dX10_bestTurn_25 : decode cX10_bestTurn 25 = .ok (.invokevirtual 223, 3) := by decide +kernel
theorem dX10_bestTurn_28 : decode cX10_bestTurn 28 = .ok (.ireturn, 1) := by decide +kernel
theorem dX10_bestTile_0 : decode cX10_bestTile 0 = .ok (.aload_n 0, 1) := by decide +kernel
theorem dX10_bestTile_1 : decode cX10_bestTile 1 = .ok (.getfield 51, 3) := by decide +kernel
theorem dX10_bestTile_4 : decode cX10_bestTile 4 = .ok (.invokevirtual 242, 3) := by decide +kernel
theorem dX10_bestTile_7 : decode cX10_bestTile 7 = .ok (.ireturn, 1) := by decide +kernel
theorem dX10_meanMatch_0 : decode cX10_meanMatch 0 = .ok (.aload_n 0, 1) := by decide +kernel
theorem dX10_meanMatch_1 : decode cX10_meanMatch 1 = .ok (.getfield 51, 3) := by decide +kernel
theorem dX10_meanMatch_4 : decode cX10_meanMatch 4 = .ok (.invokevirtual 134, 3) := by decide +kernel
theorem dX10_meanMatch_7 : decode cX10_meanMatch 7 = .ok (.istore_n 1, 1) := by decide +kernel
theorem dX10_meanMatch_8 : decode cX10_meanMatch 8 = .ok (.iload_n 1, 1) := by decide +kernel
theorem dX10_meanMatch_9 : decode cX10_meanMatch 9 = .ok (.ifCond .gt 5, 3) := by decide +kernel
theorem dX10_meanMatch_12 : decode cX10_meanMatch 12 = .ok (.dconst 0, 1) := by decide +kernel
theorem dX10_meanMatch_13 : decode cX10_meanMatch 13 = .ok (.dreturn, 1) := by decide +kernel
theorem dX10_meanMatch_14 : decode cX10_meanMatch 14 = .ok (.aload_n 0, 1) := by decide +kernel
theorem dX10_meanMatch_15 : decode cX10_meanMatch 15 = .ok (.getfield 51, 3) := by decide +kernel
theorem dX10_meanMatch_18 : decode cX10_meanMatch 18 = .ok (.invokevirtual 245, 3) := by decide +kernel
theorem dX10_meanMatch_21 : decode cX10_meanMatch 21 = .ok (.i2d, 1) := by decide +kernel
theorem dX10_meanMatch_22 : decode cX10_meanMatch 22 = .ok (.iload_n 1, 1) := by decide +kernel
theorem dX10_meanMatch_23 : decode cX10_meanMatch 23 = .ok (.i2d, 1) := by decide +kernel
theorem dX10_meanMatch_24 : decode cX10_meanMatch 24 = .ok (.ddiv, 1) := by decide +kernel
theorem dX10_meanMatch_25 : decode cX10_meanMatch 25 = .ok (.dreturn, 1) := by decide +kernel
theorem dX10_digest_0 : decode cX10_digest 0 = .ok (.ldc2_w 248, 3) := by decide +kernel
theorem dX10_digest_3 : decode cX10_digest 3 = .ok (.lstore_n 1, 1) := by decide +kernel
theorem dX10_digest_4 : decode cX10_digest 4 = .ok (.lload_n 1, 1) := by decide +kernel
theorem dX10_digest_5 : decode cX10_digest 5 = .ok (.ldc2_w 250, 3) := by decide +kernel
theorem dX10_digest_8 : decode cX10_digest 8 = .ok (.lmul, 1) := by decide +kernel
theorem dX10_digest_9 : decode cX10_digest 9 = .ok (.aload_n 0, 1) := by decide +kernel
theorem dX10_digest_10 : decode cX10_digest 10 = .ok (.invokevirtual 252, 3) := by decide +kernel
theorem dX10_digest_13 : decode cX10_digest 13 = .ok (.i2l, 1) := by decide +kernel
theorem dX10_digest_14 : decode cX10_digest 14 = .ok (.ladd, 1) := by decide +kernel
theorem dX10_digest_15 : decode cX10_digest 15 = .ok (.lstore_n 1, 1) := by decide +kernel
theorem dX10_digest_16 : decode cX10_digest 16 = .ok (.lload_n 1, 1) := by decide +kernel
theorem dX10_digest_17 : decode cX10_digest 17 = .ok (.ldc2_w 250, 3) := by decide +kernel
theorem dX10_digest_20 : decode cX10_digest 20 = .ok (.lmul, 1) := by decide +kernel
theorem dX10_digest_21 : decode cX10_digest 21 = .ok (.aload_n 0, 1) := by decide +kernel
theorem dX10_digest_22 : decode cX10_digest 22 = .ok (.invokevirtual 254, 3) := by decide +kernel
theorem dX10_digest_25 : decode cX10_digest 25 = .ok (.i2l, 1) := by decide +kernel
theorem dX10_digest_26 : decode cX10_digest 26 = .ok (.ladd, 1) := by decide +kernel
theorem dX10_digest_27 : decode cX10_digest 27 = .ok (.lstore_n 1, 1) := by decide +kernel
theorem dX10_digest_28 : decode cX10_digest 28 = .ok (.lload_n 1, 1) := by decide +kernel
theorem dX10_digest_29 : decode cX10_digest 29 = .ok (.ldc2_w 250, 3) := by decide +kernel
theorem dX10_digest_32 : decode cX10_digest 32 = .ok (.lmul, 1) := by decide +kernel
theorem dX10_digest_33 : decode cX10_digest 33 = .ok (.aload_n 0, 1) := by decide +kernel
theorem dX10_digest_34 : decode cX10_digest 34 = .ok (.invokevirtual 256, 3) := by decide +kernel
theorem dX10_digest_37 : decode cX10_digest 37 = .ok (.i2l, 1) := by decide +kernel
theorem dX10_digest_38 : decode cX10_digest 38 = .ok (.ladd, 1) := by decide +kernel
theorem dX10_digest_39 : decode cX10_digest 39 = .ok (.lstore_n 1, 1) := by decide +kernel
theorem dX10_digest_40 : decode cX10_digest 40 = .ok (.lload_n 1, 1) := by decide +kernel
theorem dX10_digest_41 : decode cX10_digest 41 = .ok (.ldc2_w 250, 3) := by decide +kernel
theorem dX10_digest_44 : decode cX10_digest 44 = .ok (.lmul, 1) := by decide +kernel
theorem dX10_digest_45 : decode cX10_digest 45 = .ok (.aload_n 0, 1) := by decide +kernel
theorem dX10_digest_46 : decode cX10_digest 46 = .ok (.invokevirtual 259, 3) := by decide +kernel
theorem dX10_digest_49 : decode cX10_digest 49 = .ok (.i2l, 1) := by decide +kernel
theorem dX10_digest_50 : decode cX10_digest 50 = .ok (.ladd, 1) := by decide +kernel
theorem dX10_digest_51 : decode cX10_digest 51 = .ok (.lstore_n 1, 1) := by decide +kernel
theorem dX10_digest_52 : decode cX10_digest 52 = .ok (.lload_n 1, 1) := by decide +kernel
theorem dX10_digest_53 : decode cX10_digest 53 = .ok (.ldc2_w 250, 3) := by decide +kernel
theorem dX10_digest_56 : decode cX10_digest 56 = .ok (.lmul, 1) := by decide +kernel
theorem dX10_digest_57 : decode cX10_digest 57 = .ok (.aload_n 0, 1) := by decide +kernel
theorem dX10_digest_58 : decode cX10_digest 58 = .ok (.invokevirtual 262, 3) := by decide +kernel
theorem dX10_digest_61 : decode cX10_digest 61 = .ok (.i2l, 1) := by decide +kernel
theorem dX10_digest_62 : decode cX10_digest 62 = .ok (.ladd, 1) := by decide +kernel
theorem dX10_digest_63 : decode cX10_digest 63 = .ok (.lstore_n 1, 1) := by decide +kernel
theorem dX10_digest_64 : decode cX10_digest 64 = .ok (.lload_n 1, 1) := by decide +kernel
theorem dX10_digest_65 : decode cX10_digest 65 = .ok (.ldc2_w 250, 3) := by decide +kernel
theorem dX10_digest_68 : decode cX10_digest 68 = .ok (.lmul, 1) := by decide +kernel
theorem dX10_digest_69 : decode cX10_digest 69 = .ok (.aload_n 0, 1) := by decide +kernel
theorem dX10_digest_70 : decode cX10_digest 70 = .ok (.invokevirtual 265, 3) := by decide +kernel
theorem dX10_digest_73 : decode cX10_digest 73 = .ok (.i2l, 1) := by decide +kernel
theorem dX10_digest_74 : decode cX10_digest 74 = .ok (.ladd, 1) := by decide +kernel
theorem dX10_digest_75 : decode cX10_digest 75 = .ok (.lstore_n 1, 1) := by decide +kernel
theorem dX10_digest_76 : decode cX10_digest 76 = .ok (.lload_n 1, 1) := by decide +kernel
theorem dX10_digest_77 : decode cX10_digest 77 = .ok (.ldc2_w 250, 3) := by decide +kernel
theorem dX10_digest_80 : decode cX10_digest 80 = .ok (.lmul, 1) := by decide +kernel
theorem dX10_digest_81 : decode cX10_digest 81 = .ok (.aload_n 0, 1) := by decide +kernel
theorem dX10_digest_82 : decode cX10_digest 82 = .ok (.invokevirtual 268, 3) := by decide +kernel
theorem dX10_digest_85 : decode cX10_digest 85 = .ok (.i2l, 1) := by decide +kernel
theorem dX10_digest_86 : decode cX10_digest 86 = .ok (.ladd, 1) := by decide +kernel
theorem dX10_digest_87 : decode cX10_digest 87 = .ok (.lstore_n 1, 1) := by decide +kernel
theorem dX10_digest_88 : decode cX10_digest 88 = .ok (.lload_n 1, 1) := by decide +kernel
theorem dX10_digest_89 : decode cX10_digest 89 = .ok (.ldc2_w 250, 3) := by decide +kernel
theorem dX10_digest_92 : decode cX10_digest 92 = .ok (.lmul, 1) := by decide +kernel
theorem dX10_digest_93 : decode cX10_digest 93 = .ok (.aload_n 0, 1) := by decide +kernel
theorem dX10_digest_94 : decode cX10_digest 94 = .ok (.invokevirtual 271, 3) := by decide +kernel
theorem dX10_digest_97 : decode cX10_digest 97 = .ok (.i2l, 1) := by decide +kernel
theorem dX10_digest_98 : decode cX10_digest 98 = .ok (.ladd, 1) := by decide +kernel
theorem dX10_digest_99 : decode cX10_digest 99 = .ok (.lstore_n 1, 1) := by decide +kernel
theorem dX10_digest_100 : decode cX10_digest 100 = .ok (.lload_n 1, 1) := by decide +kernel
theorem dX10_digest_101 : decode cX10_digest 101 = .ok (.ldc2_w 250, 3) := by decide +kernel
theorem dX10_digest_104 : decode cX10_digest 104 = .ok (.lmul, 1) := by decide +kernel
theorem dX10_digest_105 : decode cX10_digest 105 = .ok (.aload_n 0, 1) := by decide +kernel
theorem dX10_digest_106 : decode cX10_digest 106 = .ok (.invokevirtual 274, 3) := by decide +kernel
theorem dX10_digest_109 : decode cX10_digest 109 = .ok (.i2l, 1) := by decide +kernel
theorem dX10_digest_110 : decode cX10_digest 110 = .ok (.ladd, 1) := by decide +kernel
theorem dX10_digest_111 : decode cX10_digest 111 = .ok (.lstore_n 1, 1) := by decide +kernel
theorem dX10_digest_112 : decode cX10_digest 112 = .ok (.lload_n 1, 1) := by decide +kernel
theorem dX10_digest_113 : decode cX10_digest 113 = .ok (.ldc2_w 250, 3) := by decide +kernel
theorem dX10_digest_116 : decode cX10_digest 116 = .ok (.lmul, 1) := by decide +kernel
theorem dX10_digest_117 : decode cX10_digest 117 = .ok (.aload_n 0, 1) := by decide +kernel
theorem dX10_digest_118 : decode cX10_digest 118 = .ok (.invokevirtual 277, 3) := by decide +kernel
theorem dX10_digest_121 : decode cX10_digest 121 = .ok (.i2l, 1) := by decide +kernel
theorem dX10_digest_122 : decode cX10_digest 122 = .ok (.ladd, 1) := by decide +kernel
theorem dX10_digest_123 : decode cX10_digest 123 = .ok (.lstore_n 1, 1) := by decide +kernel
theorem dX10_digest_124 : decode cX10_digest 124 = .ok (.iconst 0, 1) := by decide +kernel
theorem dX10_digest_125 : decode cX10_digest 125 = .ok (.istore_n 3, 1) := by decide +kernel
theorem dX10_digest_126 : decode cX10_digest 126 = .ok (.iload_n 3, 1) := by decide +kernel
theorem dX10_digest_127 : decode cX10_digest 127 = .ok (.aload_n 0, 1) := by decide +kernel
theorem dX10_digest_128 : decode cX10_digest 128 = .ok (.getfield 51, 3) := by decide +kernel
theorem dX10_digest_131 : decode cX10_digest 131 = .ok (.getfield 280, 3) := by decide +kernel
theorem dX10_digest_134 : decode cX10_digest 134 = .ok (.if_icmp .ge 66, 3) := by decide +kernel
theorem dX10_digest_137 : decode cX10_digest 137 = .ok (.lload_n 1, 1) := by decide +kernel
theorem dX10_digest_138 : decode cX10_digest 138 = .ok (.ldc2_w 250, 3) := by decide +kernel
theorem dX10_digest_141 : decode cX10_digest 141 = .ok (.lmul, 1) := by decide +kernel
theorem dX10_digest_142 : decode cX10_digest 142 = .ok (.aload_n 0, 1) := by decide +kernel
theorem dX10_digest_143 : decode cX10_digest 143 = .ok (.getfield 51, 3) := by decide +kernel
theorem dX10_digest_146 : decode cX10_digest 146 = .ok (.getfield 149, 3) := by decide +kernel
theorem dX10_digest_149 : decode cX10_digest 149 = .ok (.iload_n 3, 1) := by decide +kernel
theorem dX10_digest_150 : decode cX10_digest 150 = .ok (.iaload, 1) := by decide +kernel
theorem dX10_digest_151 : decode cX10_digest 151 = .ok (.i2l, 1) := by decide +kernel
theorem dX10_digest_152 : decode cX10_digest 152 = .ok (.ladd, 1) := by decide +kernel
theorem dX10_digest_153 : decode cX10_digest 153 = .ok (.lstore_n 1, 1) := by decide +kernel
theorem dX10_digest_154 : decode cX10_digest 154 = .ok (.lload_n 1, 1) := by decide +kernel
theorem dX10_digest_155 : decode cX10_digest 155 = .ok (.ldc2_w 250, 3) := by decide +kernel
theorem dX10_digest_158 : decode cX10_digest 158 = .ok (.lmul, 1) := by decide +kernel
theorem dX10_digest_159 : decode cX10_digest 159 = .ok (.aload_n 0, 1) := by decide +kernel
theorem dX10_digest_160 : decode cX10_digest 160 = .ok (.getfield 51, 3) := by decide +kernel
theorem dX10_digest_163 : decode cX10_digest 163 = .ok (.iload_n 3, 1) := by decide +kernel
theorem dX10_digest_164 : decode cX10_digest 164 = .ok (.invokevirtual 166, 3) := by decide +kernel
theorem dX10_digest_167 : decode cX10_digest 167 = .ok (.i2l, 1) := by decide +kernel
theorem dX10_digest_168 : decode cX10_digest 168 = .ok (.ladd, 1) := by decide +kernel
theorem dX10_digest_169 : decode cX10_digest 169 = .ok (.lstore_n 1, 1) := by decide +kernel
theorem dX10_digest_170 : decode cX10_digest 170 = .ok (.lload_n 1, 1) := by decide +kernel
theorem dX10_digest_171 : decode cX10_digest 171 = .ok (.ldc2_w 250, 3) := by decide +kernel
theorem dX10_digest_174 : decode cX10_digest 174 = .ok (.lmul, 1) := by decide +kernel
theorem dX10_digest_175 : decode cX10_digest 175 = .ok (.aload_n 0, 1) := by decide +kernel
theorem dX10_digest_176 : decode cX10_digest 176 = .ok (.getfield 51, 3) := by decide +kernel
theorem dX10_digest_179 : decode cX10_digest 179 = .ok (.iload_n 3, 1) := by decide +kernel
theorem dX10_digest_180 : decode cX10_digest 180 = .ok (.invokevirtual 169, 3) := by decide +kernel
theorem dX10_digest_183 : decode cX10_digest 183 = .ok (.ifCond .eq 7, 3) := by decide +kernel
theorem dX10_digest_186 : decode cX10_digest 186 = .ok (.iconst 1, 1) := by decide +kernel
theorem dX10_digest_187 : decode cX10_digest 187 = .ok (.goto 4, 3) := by decide +kernel
theorem dX10_digest_190 : decode cX10_digest 190 = .ok (.iconst 0, 1) := by decide +kernel
theorem dX10_digest_191 : decode cX10_digest 191 = .ok (.i2l, 1) := by decide +kernel
theorem dX10_digest_192 : decode cX10_digest 192 = .ok (.ladd, 1) := by decide +kernel
theorem dX10_digest_193 : decode cX10_digest 193 = .ok (.lstore_n 1, 1) := by decide +kernel
theorem dX10_digest_194 : decode cX10_digest 194 = .ok (.iinc 3 1, 3) := by decide +kernel
theorem dX10_digest_197 : decode cX10_digest 197 = .ok (.goto (-71), 3) := by decide +kernel
theorem dX10_digest_200 : decode cX10_digest 200 = .ok (.iconst 0, 1) := by decide +kernel
theorem dX10_digest_201 : decode cX10_digest 201 = .ok (.istore_n 3, 1) := by decide +kernel
theorem dX10_digest_202 : decode cX10_digest 202 = .ok (.iload_n 3, 1) := by decide +kernel
theorem dX10_digest_203 : decode cX10_digest 203 = .ok (.aload_n 0, 1) := by decide +kernel
theorem dX10_digest_204 : decode cX10_digest 204 = .ok (.getfield 51, 3) := by decide +kernel
theorem dX10_digest_207 : decode cX10_digest 207 = .ok (.getfield 125, 3) := by decide +kernel
theorem dX10_digest_210 : decode cX10_digest 210 = .ok (.if_icmp .ge 90, 3) := by decide +kernel
theorem dX10_digest_213 : decode cX10_digest 213 = .ok (.aload_n 0, 1) := by decide +kernel
theorem dX10_digest_214 : decode cX10_digest 214 = .ok (.getfield 51, 3) := by decide +kernel
theorem dX10_digest_217 : decode cX10_digest 217 = .ok (.iload_n 3, 1) := by decide +kernel
theorem dX10_digest_218 : decode cX10_digest 218 = .ok (.invokevirtual 195, 3) := by decide +kernel
theorem dX10_digest_221 : decode cX10_digest 221 = .ok (.istore 4, 2) := by decide +kernel
theorem dX10_digest_223 : decode cX10_digest 223 = .ok (.lload_n 1, 1) := by decide +kernel
theorem dX10_digest_224 : decode cX10_digest 224 = .ok (.ldc2_w 250, 3) := by decide +kernel
theorem dX10_digest_227 : decode cX10_digest 227 = .ok (.lmul, 1) := by decide +kernel
theorem dX10_digest_228 : decode cX10_digest 228 = .ok (.aload_n 0, 1) := by decide +kernel
theorem dX10_digest_229 : decode cX10_digest 229 = .ok (.getfield 51, 3) := by decide +kernel
theorem dX10_digest_232 : decode cX10_digest 232 = .ok (.iload_n 3, 1) := by decide +kernel
theorem dX10_digest_233 : decode cX10_digest 233 = .ok (.invokevirtual 175, 3) := by decide +kernel
theorem dX10_digest_236 : decode cX10_digest 236 = .ok (.ifCond .eq 15, 3) := by decide +kernel
theorem dX10_digest_239 : decode cX10_digest 239 = .ok (.aload_n 0, 1) := by decide +kernel
theorem dX10_digest_240 : decode cX10_digest 240 = .ok (.getfield 51, 3) := by decide +kernel
theorem dX10_digest_243 : decode cX10_digest 243 = .ok (.getfield 159, 3) := by decide +kernel
theorem dX10_digest_246 : decode cX10_digest 246 = .ok (.iload_n 3, 1) := by decide +kernel
theorem dX10_digest_247 : decode cX10_digest 247 = .ok (.iaload, 1) := by decide +kernel
theorem dX10_digest_248 : decode cX10_digest 248 = .ok (.goto 4, 3) := by decide +kernel
theorem dX10_digest_251 : decode cX10_digest 251 = .ok (.iconst (-1), 1) := by decide +kernel
theorem dX10_digest_252 : decode cX10_digest 252 = .ok (.i2l, 1) := by decide +kernel
theorem dX10_digest_253 : decode cX10_digest 253 = .ok (.ladd, 1) := by decide +kernel
theorem dX10_digest_254 : decode cX10_digest 254 = .ok (.lstore_n 1, 1) := by decide +kernel
theorem dX10_digest_255 : decode cX10_digest 255 = .ok (.lload_n 1, 1) := by decide +kernel
theorem dX10_digest_256 : decode cX10_digest 256 = .ok (.ldc2_w 250, 3) := by decide +kernel
theorem dX10_digest_259 : decode cX10_digest 259 = .ok (.lmul, 1) := by decide +kernel
theorem dX10_digest_260 : decode cX10_digest 260 = .ok (.iload 4, 2) := by decide +kernel
theorem dX10_digest_262 : decode cX10_digest 262 = .ok (.i2l, 1) := by decide +kernel
theorem dX10_digest_263 : decode cX10_digest 263 = .ok (.ladd, 1) := by decide +kernel
theorem dX10_digest_264 : decode cX10_digest 264 = .ok (.lstore_n 1, 1) := by decide +kernel
theorem dX10_digest_265 : decode cX10_digest 265 = .ok (.lload_n 1, 1) := by decide +kernel
theorem dX10_digest_266 : decode cX10_digest 266 = .ok (.ldc2_w 250, 3) := by decide +kernel
theorem dX10_digest_269 : decode cX10_digest 269 = .ok (.lmul, 1) := by decide +kernel
theorem dX10_digest_270 : decode cX10_digest 270 = .ok (.iload 4, 2) := by decide +kernel
theorem dX10_digest_272 : decode cX10_digest 272 = .ok (.ifCond .ne 18, 3) := by decide +kernel
theorem dX10_digest_275 : decode cX10_digest 275 = .ok (.aload_n 0, 1) := by decide +kernel
theorem dX10_digest_276 : decode cX10_digest 276 = .ok (.getfield 51, 3) := by decide +kernel
theorem dX10_digest_279 : decode cX10_digest 279 = .ok (.iload_n 3, 1) := by decide +kernel
theorem dX10_digest_280 : decode cX10_digest 280 = .ok (.invokevirtual 175, 3) := by decide +kernel
theorem dX10_digest_283 : decode cX10_digest 283 = .ok (.ifCond .ne 7, 3) := by decide +kernel
theorem dX10_digest_286 : decode cX10_digest 286 = .ok (.iconst 1, 1) := by decide +kernel
theorem dX10_digest_287 : decode cX10_digest 287 = .ok (.goto 4, 3) := by decide +kernel
theorem dX10_digest_290 : decode cX10_digest 290 = .ok (.iconst 0, 1) := by decide +kernel
theorem dX10_digest_291 : decode cX10_digest 291 = .ok (.i2l, 1) := by decide +kernel
theorem dX10_digest_292 : decode cX10_digest 292 = .ok (.ladd, 1) := by decide +kernel
theorem dX10_digest_293 : decode cX10_digest 293 = .ok (.lstore_n 1, 1) := by decide +kernel
theorem dX10_digest_294 : decode cX10_digest 294 = .ok (.iinc 3 1, 3) := by decide +kernel
theorem dX10_digest_297 : decode cX10_digest 297 = .ok (.goto (-95), 3) := by decide +kernel
theorem dX10_digest_300 : decode cX10_digest 300 = .ok (.lload_n 1, 1) := by decide +kernel
theorem dX10_digest_301 : decode cX10_digest 301 = .ok (.lreturn, 1) := by decide +kernel
theorem dX10_requireCell_0 : decode cX10_requireCell 0 = .ok (.iload_n 1, 1) := by decide +kernel
theorem dX10_requireCell_1 : decode cX10_requireCell 1 = .ok (.ifCond .lt 14, 3) := by decide +kernel
theorem dX10_requireCell_4 : decode cX10_requireCell 4 = .ok (.iload_n 1, 1) := by decide +kernel
theorem dX10_requireCell_5 : decode cX10_requireCell 5 = .ok (.aload_n 0, 1) := by decide +kernel
theorem dX10_requireCell_6 : decode cX10_requireCell 6 = .ok (.getfield 51, 3) := by decide +kernel
theorem dX10_requireCell_9 : decode cX10_requireCell 9 = .ok (.getfield 280, 3) := by decide +kernel
theorem dX10_requireCell_12 : decode cX10_requireCell 12 = .ok (.if_icmp .lt 14, 3) := by decide +kernel
theorem dX10_requireCell_15 : decode cX10_requireCell 15 = .ok (.new 283, 3) := by decide +kernel
theorem dX10_requireCell_18 : decode cX10_requireCell 18 = .ok (.dup, 1) := by decide +kernel
theorem dX10_requireCell_19 : decode cX10_requireCell 19 = .ok (.ldc_w 285, 3) := by decide +kernel
theorem dX10_requireCell_22 : decode cX10_requireCell 22 = .ok (.invokespecial 287, 3) := by decide +kernel
theorem dX10_requireCell_25 : decode cX10_requireCell 25 = .ok (.athrow, 1) := by decide +kernel
theorem dX10_requireCell_26 : decode cX10_requireCell 26 = .ok (.return_, 1) := by decide +kernel
theorem dX10_requireTile_0 : decode cX10_requireTile 0 = .ok (.aload_n 0, 1) := by decide +kernel
theorem dX10_requireTile_1 : decode cX10_requireTile 1 = .ok (.getfield 51, 3) := by decide +kernel
theorem dX10_requireTile_4 : decode cX10_requireTile 4 = .ok (.iload_n 1, 1) := by decide +kernel
theorem dX10_requireTile_5 : decode cX10_requireTile 5 = .ok (.invokevirtual 288, 3) := by decide +kernel
theorem dX10_requireTile_8 : decode cX10_requireTile 8 = .ok (.ifCond .ne 14, 3) := by decide +kernel
theorem dX10_requireTile_11 : decode cX10_requireTile 11 = .ok (.new 283, 3) := by decide +kernel
theorem dX10_requireTile_14 : decode cX10_requireTile 14 = .ok (.dup, 1) := by decide +kernel
theorem dX10_requireTile_15 : decode cX10_requireTile 15 = .ok (.ldc_w 291, 3) := by decide +kernel
theorem dX10_requireTile_18 : decode cX10_requireTile 18 = .ok (.invokespecial 287, 3) := by decide +kernel
theorem dX10_requireTile_21 : decode cX10_requireTile 21 = .ok (.athrow, 1) := by decide +kernel
theorem dX10_requireTile_22 : decode cX10_requireTile 22 = .ok (.return_, 1) := by decide +kernel
theorem dX10_requireEdge_0 : decode cX10_requireEdge 0 = .ok (.iload_n 1, 1) := by decide +kernel
theorem dX10_requireEdge_1 : decode cX10_requireEdge 1 = .ok (.ifCond .lt 9, 3) := by decide +kernel
theorem dX10_requireEdge_4 : decode cX10_requireEdge 4 = .ok (.iload_n 1, 1) := by decide +kernel
theorem dX10_requireEdge_5 : decode cX10_requireEdge 5 = .ok (.bipush 6, 2) := by decide +kernel
theorem dX10_requireEdge_7 : decode cX10_requireEdge 7 = .ok (.if_icmp .lt 14, 3) := by decide +kernel
theorem dX10_requireEdge_10 : decode cX10_requireEdge 10 = .ok (.new 283, 3) := by decide +kernel
theorem dX10_requireEdge_13 : decode cX10_requireEdge 13 = .ok (.dup, 1) := by decide +kernel
theorem dX10_requireEdge_14 : decode cX10_requireEdge 14 = .ok (.ldc_w 293, 3) := by decide +kernel
theorem dX10_requireEdge_17 : decode cX10_requireEdge 17 = .ok (.invokespecial 287, 3) := by decide +kernel
theorem dX10_requireEdge_20 : decode cX10_requireEdge 20 = .ok (.athrow, 1) := by decide +kernel
theorem dX10_requireEdge_21 : decode cX10_requireEdge 21 = .ok (.return_, 1) := by decide +kernel
theorem dX10_requireWay_0 : decode cX10_requireWay 0 = .ok (.aload_n 0, 1) := by decide +kernel
theorem dX10_requireWay_1 : decode cX10_requireWay 1 = .ok (.iload_n 1, 1) := by decide +kernel
theorem dX10_requireWay_2 : decode cX10_requireWay 2 = .ok (.invokevirtual 172, 3) := by decide +kernel
theorem dX10_requireWay_5 : decode cX10_requireWay 5 = .ok (.aload_n 0, 1) := by decide +kernel
theorem dX10_requireWay_6 : decode cX10_requireWay 6 = .ok (.iload_n 2, 1) := by decide +kernel
theorem dX10_requireWay_7 : decode cX10_requireWay 7 = .ok (.invokevirtual 146, 3) := by decide +kernel
theorem dX10_requireWay_10 : decode cX10_requireWay 10 = .ok (.aload_n 0, 1) := by decide +kernel
theorem dX10_requireWay_11 : decode cX10_requireWay 11 = .ok (.iload_n 3, 1) := by decide +kernel
theorem dX10_requireWay_12 : decode cX10_requireWay 12 = .ok (.invokevirtual 156, 3) := by decide +kernel
theorem dX10_requireWay_15 : decode cX10_requireWay 15 = .ok (.return_, 1) := by decide +kernel
theorem dX10_requireTileOn_0 : decode cX10_requireTileOn 0 = .ok (.aload_n 0, 1) := by decide +kernel
theorem dX10_requireTileOn_1 : decode cX10_requireTileOn 1 = .ok (.getfield 51, 3) := by decide +kernel
theorem dX10_requireTileOn_4 : decode cX10_requireTileOn 4 = .ok (.getfield 149, 3) := by decide +kernel
theorem dX10_requireTileOn_7 : decode cX10_requireTileOn 7 = .ok (.iload_n 1, 1) := by decide +kernel
theorem dX10_requireTileOn_8 : decode cX10_requireTileOn 8 = .ok (.iaload, 1) := by decide +kernel
theorem dX10_requireTileOn_9 : decode cX10_requireTileOn 9 = .ok (.ifCond .ge 14, 3) := by decide +kernel
theorem dX10_requireTileOn_12 : decode cX10_requireTileOn 12 = .ok (.new 72, 3) := by decide +kernel
theorem dX10_requireTileOn_15 : decode cX10_requireTileOn 15 = .ok (.dup, 1) := by decide +kernel
theorem dX10_requireTileOn_16 : decode cX10_requireTileOn 16 = .ok (.ldc_w 295, 3) := by decide +kernel
theorem dX10_requireTileOn_19 : decode cX10_requireTileOn 19 = .ok (.invokespecial 76, 3) := by decide +kernel
theorem dX10_requireTileOn_22 : decode cX10_requireTileOn 22 = .ok (.athrow, 1) := by decide +kernel
theorem dX10_requireTileOn_23 : decode cX10_requireTileOn 23 = .ok (.return_, 1) := by decide +kernel
theorem dX10_requireLying_0 : decode cX10_requireLying 0 = .ok (.aload_n 0, 1) := by decide +kernel
theorem dX10_requireLying_1 : decode cX10_requireLying 1 = .ok (.getfield 51, 3) := by decide +kernel
theorem dX10_requireLying_4 : decode cX10_requireLying 4 = .ok (.iload_n 1, 1) := by decide +kernel
theorem dX10_requireLying_5 : decode cX10_requireLying 5 = .ok (.invokevirtual 175, 3) := by decide +kernel
theorem dX10_requireLying_8 : decode cX10_requireLying 8 = .ok (.ifCond .ne 14, 3) := by decide +kernel
theorem dX10_requireLying_11 : decode cX10_requireLying 11 = .ok (.new 72, 3) := by decide +kernel
theorem dX10_requireLying_14 : decode cX10_requireLying 14 = .ok (.dup, 1) := by decide +kernel
theorem dX10_requireLying_15 : decode cX10_requireLying 15 = .ok (.ldc_w 297, 3) := by decide +kernel
theorem dX10_requireLying_18 : decode cX10_requireLying 18 = .ok (.invokespecial 76, 3) := by decide +kernel
theorem dX10_requireLying_21 : decode cX10_requireLying 21 = .ok (.athrow, 1) := by decide +kernel
theorem dX10_requireLying_22 : decode cX10_requireLying 22 = .ok (.return_, 1) := by decide +kernel
theorem dX10_requireSome_0 : decode cX10_requireSome 0 = .ok (.iload_n 1, 1) := by decide +kernel
theorem dX10_requireSome_1 : decode cX10_requireSome 1 = .ok (.ifCond .ge 14, 3) := by decide +kernel
theorem dX10_requireSome_4 : decode cX10_requireSome 4 = .ok (.new 72, 3) := by decide +kernel
theorem dX10_requireSome_7 : decode cX10_requireSome 7 = .ok (.dup, 1) := by decide +kernel
theorem dX10_requireSome_8 : decode cX10_requireSome 8 = .ok (.ldc_w 299, 3) := by decide +kernel
theorem dX10_requireSome_11 : decode cX10_requireSome 11 = .ok (.invokespecial 76, 3) := by decide +kernel
theorem dX10_requireSome_14 : decode cX10_requireSome 14 = .ok (.athrow, 1) := by decide +kernel
theorem dX10_requireSome_15 : decode cX10_requireSome 15 = .ok (.return_, 1) := by decide +kernel
theorem dX10_requireRounds_0 : decode cX10_requireRounds 0 = .ok (.iload_n 1, 1) := by decide +kernel
theorem dX10_requireRounds_1 : decode cX10_requireRounds 1 = .ok (.iconst 1, 1) := by decide +kernel
theorem dX10_requireRounds_2 : decode cX10_requireRounds 2 = .ok (.if_icmp .lt 9, 3) := by decide +kernel
theorem dX10_requireRounds_5 : decode cX10_requireRounds 5 = .ok (.iload_n 1, 1) := by decide +kernel
theorem dX10_requireRounds_6 : decode cX10_requireRounds 6 = .ok (.bipush 20, 2) := by decide +kernel
theorem dX10_requireRounds_8 : decode cX10_requireRounds 8 = .ok (.if_icmp .le 14, 3) := by decide +kernel
theorem dX10_requireRounds_11 : decode cX10_requireRounds 11 = .ok (.new 86, 3) := by decide +kernel
theorem dX10_requireRounds_14 : decode cX10_requireRounds 14 = .ok (.dup, 1) := by decide +kernel
theorem dX10_requireRounds_15 : decode cX10_requireRounds 15 = .ok (.ldc_w 301, 3) := by decide +kernel
theorem dX10_requireRounds_18 : decode cX10_requireRounds 18 = .ok (.invokespecial 90, 3) := by decide +kernel
theorem dX10_requireRounds_21 : decode cX10_requireRounds 21 = .ok (.athrow, 1) := by decide +kernel
theorem dX10_requireRounds_22 : decode cX10_requireRounds 22 = .ok (.return_, 1) := by decide +kernel
