/-! ===== the law's own methods: names, decode rows ===== -/
theorem dL_feed_0 : decode cL_feed 0 = .ok (.aload 6, 2) := by decide +kernel
theorem dL_feed_2 : decode cL_feed 2 = .ok (.iconst 0, 1) := by decide +kernel
theorem dL_feed_3 : decode cL_feed 3 = .ok (.aload_n 0, 1) := by decide +kernel
theorem dL_feed_4 : decode cL_feed 4 = .ok (.iload_n 1, 1) := by decide +kernel
theorem dL_feed_5 : decode cL_feed 5 = .ok (.iload_n 2, 1) := by decide +kernel
theorem dL_feed_6 : decode cL_feed 6 = .ok (.iload_n 3, 1) := by decide +kernel
theorem dL_feed_7 : decode cL_feed 7 = .ok (.iload 4, 2) := by decide +kernel
theorem dL_feed_9 : decode cL_feed 9 = .ok (.iload 5, 2) := by decide +kernel
theorem dL_feed_11 : decode cL_feed 11 = .ok (.invokevirtual 7, 3) := by decide +kernel
theorem dL_feed_14 : decode cL_feed 14 = .ok (.i2l, 1) := by decide +kernel
theorem dL_feed_15 : decode cL_feed 15 = .ok (.lastore, 1) := by decide +kernel
theorem dL_feed_16 : decode cL_feed 16 = .ok (.goto 7, 3) := by decide +kernel
theorem dL_feed_19 : decode cL_feed 19 = .ok (.astore 7, 2) := by decide +kernel
theorem dL_feed_21 : decode cL_feed 21 = .ok (.iconst 1, 1) := by decide +kernel
theorem dL_feed_22 : decode cL_feed 22 = .ok (.ireturn, 1) := by decide +kernel
theorem dL_feed_23 : decode cL_feed 23 = .ok (.iconst 0, 1) := by decide +kernel
theorem dL_feed_24 : decode cL_feed 24 = .ok (.ireturn, 1) := by decide +kernel
theorem dL_trim_0 : decode cL_trim 0 = .ok (.aload_n 2, 1) := by decide +kernel
theorem dL_trim_1 : decode cL_trim 1 = .ok (.iconst 0, 1) := by decide +kernel
theorem dL_trim_2 : decode cL_trim 2 = .ok (.aload_n 0, 1) := by decide +kernel
theorem dL_trim_3 : decode cL_trim 3 = .ok (.iload_n 1, 1) := by decide +kernel
theorem dL_trim_4 : decode cL_trim 4 = .ok (.invokevirtual 15, 3) := by decide +kernel
theorem dL_trim_7 : decode cL_trim 7 = .ok (.i2l, 1) := by decide +kernel
theorem dL_trim_8 : decode cL_trim 8 = .ok (.lastore, 1) := by decide +kernel
theorem dL_trim_9 : decode cL_trim 9 = .ok (.goto 6, 3) := by decide +kernel
theorem dL_trim_12 : decode cL_trim 12 = .ok (.astore_n 3, 1) := by decide +kernel
theorem dL_trim_13 : decode cL_trim 13 = .ok (.iconst 1, 1) := by decide +kernel
theorem dL_trim_14 : decode cL_trim 14 = .ok (.ireturn, 1) := by decide +kernel
theorem dL_trim_15 : decode cL_trim 15 = .ok (.iconst 0, 1) := by decide +kernel
theorem dL_trim_16 : decode cL_trim 16 = .ok (.ireturn, 1) := by decide +kernel
theorem dL_hasTile_0 : decode cL_hasTile 0 = .ok (.aload_n 2, 1) := by decide +kernel
theorem dL_hasTile_1 : decode cL_hasTile 1 = .ok (.iconst 0, 1) := by decide +kernel
theorem dL_hasTile_2 : decode cL_hasTile 2 = .ok (.aload_n 0, 1) := by decide +kernel
theorem dL_hasTile_3 : decode cL_hasTile 3 = .ok (.iload_n 1, 1) := by decide +kernel
theorem dL_hasTile_4 : decode cL_hasTile 4 = .ok (.invokevirtual 21, 3) := by decide +kernel
theorem dL_hasTile_7 : decode cL_hasTile 7 = .ok (.ifCond .eq 7, 3) := by decide +kernel
theorem dL_hasTile_10 : decode cL_hasTile 10 = .ok (.lconst 1, 1) := by decide +kernel
theorem dL_hasTile_11 : decode cL_hasTile 11 = .ok (.goto 4, 3) := by decide +kernel
theorem dL_hasTile_14 : decode cL_hasTile 14 = .ok (.lconst 0, 1) := by decide +kernel
theorem dL_hasTile_15 : decode cL_hasTile 15 = .ok (.lastore, 1) := by decide +kernel
theorem dL_hasTile_16 : decode cL_hasTile 16 = .ok (.goto 6, 3) := by decide +kernel
theorem dL_hasTile_19 : decode cL_hasTile 19 = .ok (.astore_n 3, 1) := by decide +kernel
theorem dL_hasTile_20 : decode cL_hasTile 20 = .ok (.iconst 1, 1) := by decide +kernel
theorem dL_hasTile_21 : decode cL_hasTile 21 = .ok (.ireturn, 1) := by decide +kernel
theorem dL_hasTile_22 : decode cL_hasTile 22 = .ok (.iconst 0, 1) := by decide +kernel
theorem dL_hasTile_23 : decode cL_hasTile 23 = .ok (.ireturn, 1) := by decide +kernel
theorem dL_tileAt_0 : decode cL_tileAt 0 = .ok (.aload_n 2, 1) := by decide +kernel
theorem dL_tileAt_1 : decode cL_tileAt 1 = .ok (.iconst 0, 1) := by decide +kernel
theorem dL_tileAt_2 : decode cL_tileAt 2 = .ok (.aload_n 0, 1) := by decide +kernel
theorem dL_tileAt_3 : decode cL_tileAt 3 = .ok (.iload_n 1, 1) := by decide +kernel
theorem dL_tileAt_4 : decode cL_tileAt 4 = .ok (.invokevirtual 27, 3) := by decide +kernel
theorem dL_tileAt_7 : decode cL_tileAt 7 = .ok (.i2l, 1) := by decide +kernel
theorem dL_tileAt_8 : decode cL_tileAt 8 = .ok (.lastore, 1) := by decide +kernel
theorem dL_tileAt_9 : decode cL_tileAt 9 = .ok (.goto 9, 3) := by decide +kernel
theorem dL_tileAt_12 : decode cL_tileAt 12 = .ok (.astore_n 3, 1) := by decide +kernel
theorem dL_tileAt_13 : decode cL_tileAt 13 = .ok (.iconst 1, 1) := by decide +kernel
theorem dL_tileAt_14 : decode cL_tileAt 14 = .ok (.ireturn, 1) := by decide +kernel
theorem dL_tileAt_15 : decode cL_tileAt 15 = .ok (.astore_n 3, 1) := by decide +kernel
theorem dL_tileAt_16 : decode cL_tileAt 16 = .ok (.iconst 2, 1) := by decide +kernel
theorem dL_tileAt_17 : decode cL_tileAt 17 = .ok (.ireturn, 1) := by decide +kernel
theorem dL_tileAt_18 : decode cL_tileAt 18 = .ok (.iconst 0, 1) := by decide +kernel
theorem dL_tileAt_19 : decode cL_tileAt 19 = .ok (.ireturn, 1) := by decide +kernel
theorem dL_numberAt_0 : decode cL_numberAt 0 = .ok (.aload_n 3, 1) := by decide +kernel
theorem dL_numberAt_1 : decode cL_numberAt 1 = .ok (.iconst 0, 1) := by decide +kernel
theorem dL_numberAt_2 : decode cL_numberAt 2 = .ok (.aload_n 0, 1) := by decide +kernel
theorem dL_numberAt_3 : decode cL_numberAt 3 = .ok (.iload_n 1, 1) := by decide +kernel
theorem dL_numberAt_4 : decode cL_numberAt 4 = .ok (.iload_n 2, 1) := by decide +kernel
theorem dL_numberAt_5 : decode cL_numberAt 5 = .ok (.invokevirtual 30, 3) := by decide +kernel
theorem dL_numberAt_8 : decode cL_numberAt 8 = .ok (.i2l, 1) := by decide +kernel
theorem dL_numberAt_9 : decode cL_numberAt 9 = .ok (.lastore, 1) := by decide +kernel
theorem dL_numberAt_10 : decode cL_numberAt 10 = .ok (.goto 11, 3) := by decide +kernel
theorem dL_numberAt_13 : decode cL_numberAt 13 = .ok (.astore 4, 2) := by decide +kernel
theorem dL_numberAt_15 : decode cL_numberAt 15 = .ok (.iconst 1, 1) := by decide +kernel
theorem dL_numberAt_16 : decode cL_numberAt 16 = .ok (.ireturn, 1) := by decide +kernel
theorem dL_numberAt_17 : decode cL_numberAt 17 = .ok (.astore 4, 2) := by decide +kernel
theorem dL_numberAt_19 : decode cL_numberAt 19 = .ok (.iconst 2, 1) := by decide +kernel
theorem dL_numberAt_20 : decode cL_numberAt 20 = .ok (.ireturn, 1) := by decide +kernel
theorem dL_numberAt_21 : decode cL_numberAt 21 = .ok (.iconst 0, 1) := by decide +kernel
theorem dL_numberAt_22 : decode cL_numberAt 22 = .ok (.ireturn, 1) := by decide +kernel
theorem dL_matchesOf_0 : decode cL_matchesOf 0 = .ok (.aload_n 2, 1) := by decide +kernel
theorem dL_matchesOf_1 : decode cL_matchesOf 1 = .ok (.iconst 0, 1) := by decide +kernel
theorem dL_matchesOf_2 : decode cL_matchesOf 2 = .ok (.aload_n 0, 1) := by decide +kernel
theorem dL_matchesOf_3 : decode cL_matchesOf 3 = .ok (.iload_n 1, 1) := by decide +kernel
theorem dL_matchesOf_4 : decode cL_matchesOf 4 = .ok (.invokevirtual 34, 3) := by decide +kernel
theorem dL_matchesOf_7 : decode cL_matchesOf 7 = .ok (.i2l, 1) := by decide +kernel
theorem dL_matchesOf_8 : decode cL_matchesOf 8 = .ok (.lastore, 1) := by decide +kernel
theorem dL_matchesOf_9 : decode cL_matchesOf 9 = .ok (.goto 6, 3) := by decide +kernel
theorem dL_matchesOf_12 : decode cL_matchesOf 12 = .ok (.astore_n 3, 1) := by decide +kernel
theorem dL_matchesOf_13 : decode cL_matchesOf 13 = .ok (.iconst 1, 1) := by decide +kernel
theorem dL_matchesOf_14 : decode cL_matchesOf 14 = .ok (.ireturn, 1) := by decide +kernel
theorem dL_matchesOf_15 : decode cL_matchesOf 15 = .ok (.iconst 0, 1) := by decide +kernel
theorem dL_matchesOf_16 : decode cL_matchesOf 16 = .ok (.ireturn, 1) := by decide +kernel
theorem dL_isRing_0 : decode cL_isRing 0 = .ok (.aload_n 2, 1) := by decide +kernel
theorem dL_isRing_1 : decode cL_isRing 1 = .ok (.iconst 0, 1) := by decide +kernel
theorem dL_isRing_2 : decode cL_isRing 2 = .ok (.aload_n 0, 1) := by decide +kernel
theorem dL_isRing_3 : decode cL_isRing 3 = .ok (.iload_n 1, 1) := by decide +kernel
theorem dL_isRing_4 : decode cL_isRing 4 = .ok (.invokevirtual 37, 3) := by decide +kernel
theorem dL_isRing_7 : decode cL_isRing 7 = .ok (.ifCond .eq 7, 3) := by decide +kernel
theorem dL_isRing_10 : decode cL_isRing 10 = .ok (.lconst 1, 1) := by decide +kernel
theorem dL_isRing_11 : decode cL_isRing 11 = .ok (.goto 4, 3) := by decide +kernel
theorem dL_isRing_14 : decode cL_isRing 14 = .ok (.lconst 0, 1) := by decide +kernel
theorem dL_isRing_15 : decode cL_isRing 15 = .ok (.lastore, 1) := by decide +kernel
theorem dL_isRing_16 : decode cL_isRing 16 = .ok (.goto 6, 3) := by decide +kernel
theorem dL_isRing_19 : decode cL_isRing 19 = .ok (.astore_n 3, 1) := by decide +kernel
theorem dL_isRing_20 : decode cL_isRing 20 = .ok (.iconst 1, 1) := by decide +kernel
theorem dL_isRing_21 : decode cL_isRing 21 = .ok (.ireturn, 1) := by decide +kernel
theorem dL_isRing_22 : decode cL_isRing 22 = .ok (.iconst 0, 1) := by decide +kernel
theorem dL_isRing_23 : decode cL_isRing 23 = .ok (.ireturn, 1) := by decide +kernel
theorem dL_isPlaced_0 : decode cL_isPlaced 0 = .ok (.aload_n 2, 1) := by decide +kernel
theorem dL_isPlaced_1 : decode cL_isPlaced 1 = .ok (.iconst 0, 1) := by decide +kernel
theorem dL_isPlaced_2 : decode cL_isPlaced 2 = .ok (.aload_n 0, 1) := by decide +kernel
theorem dL_isPlaced_3 : decode cL_isPlaced 3 = .ok (.iload_n 1, 1) := by decide +kernel
theorem dL_isPlaced_4 : decode cL_isPlaced 4 = .ok (.invokevirtual 40, 3) := by decide +kernel
theorem dL_isPlaced_7 : decode cL_isPlaced 7 = .ok (.ifCond .eq 7, 3) := by decide +kernel
theorem dL_isPlaced_10 : decode cL_isPlaced 10 = .ok (.lconst 1, 1) := by decide +kernel
theorem dL_isPlaced_11 : decode cL_isPlaced 11 = .ok (.goto 4, 3) := by decide +kernel
theorem dL_isPlaced_14 : decode cL_isPlaced 14 = .ok (.lconst 0, 1) := by decide +kernel
theorem dL_isPlaced_15 : decode cL_isPlaced 15 = .ok (.lastore, 1) := by decide +kernel
theorem dL_isPlaced_16 : decode cL_isPlaced 16 = .ok (.goto 6, 3) := by decide +kernel
theorem dL_isPlaced_19 : decode cL_isPlaced 19 = .ok (.astore_n 3, 1) := by decide +kernel
theorem dL_isPlaced_20 : decode cL_isPlaced 20 = .ok (.iconst 1, 1) := by decide +kernel
theorem dL_isPlaced_21 : decode cL_isPlaced 21 = .ok (.ireturn, 1) := by decide +kernel
theorem dL_isPlaced_22 : decode cL_isPlaced 22 = .ok (.iconst 0, 1) := by decide +kernel
theorem dL_isPlaced_23 : decode cL_isPlaced 23 = .ok (.ireturn, 1) := by decide +kernel
theorem dL_cellOf_0 : decode cL_cellOf 0 = .ok (.aload_n 2, 1) := by decide +kernel
theorem dL_cellOf_1 : decode cL_cellOf 1 = .ok (.iconst 0, 1) := by decide +kernel
theorem dL_cellOf_2 : decode cL_cellOf 2 = .ok (.aload_n 0, 1) := by decide +kernel
theorem dL_cellOf_3 : decode cL_cellOf 3 = .ok (.iload_n 1, 1) := by decide +kernel
theorem dL_cellOf_4 : decode cL_cellOf 4 = .ok (.invokevirtual 43, 3) := by decide +kernel
theorem dL_cellOf_7 : decode cL_cellOf 7 = .ok (.i2l, 1) := by decide +kernel
theorem dL_cellOf_8 : decode cL_cellOf 8 = .ok (.lastore, 1) := by decide +kernel
theorem dL_cellOf_9 : decode cL_cellOf 9 = .ok (.goto 9, 3) := by decide +kernel
theorem dL_cellOf_12 : decode cL_cellOf 12 = .ok (.astore_n 3, 1) := by decide +kernel
theorem dL_cellOf_13 : decode cL_cellOf 13 = .ok (.iconst 1, 1) := by decide +kernel
theorem dL_cellOf_14 : decode cL_cellOf 14 = .ok (.ireturn, 1) := by decide +kernel
theorem dL_cellOf_15 : decode cL_cellOf 15 = .ok (.astore_n 3, 1) := by decide +kernel
theorem dL_cellOf_16 : decode cL_cellOf 16 = .ok (.iconst 2, 1) := by decide +kernel
theorem dL_cellOf_17 : decode cL_cellOf 17 = .ok (.ireturn, 1) := by decide +kernel
theorem dL_cellOf_18 : decode cL_cellOf 18 = .ok (.iconst 0, 1) := by decide +kernel
theorem dL_cellOf_19 : decode cL_cellOf 19 = .ok (.ireturn, 1) := by decide +kernel
theorem dL_turnOf_0 : decode cL_turnOf 0 = .ok (.aload_n 2, 1) := by decide +kernel
theorem dL_turnOf_1 : decode cL_turnOf 1 = .ok (.iconst 0, 1) := by decide +kernel
theorem dL_turnOf_2 : decode cL_turnOf 2 = .ok (.aload_n 0, 1) := by decide +kernel
theorem dL_turnOf_3 : decode cL_turnOf 3 = .ok (.iload_n 1, 1) := by decide +kernel
theorem dL_turnOf_4 : decode cL_turnOf 4 = .ok (.invokevirtual 46, 3) := by decide +kernel
theorem dL_turnOf_7 : decode cL_turnOf 7 = .ok (.i2l, 1) := by decide +kernel
theorem dL_turnOf_8 : decode cL_turnOf 8 = .ok (.lastore, 1) := by decide +kernel
theorem dL_turnOf_9 : decode cL_turnOf 9 = .ok (.goto 9, 3) := by decide +kernel
theorem dL_turnOf_12 : decode cL_turnOf 12 = .ok (.astore_n 3, 1) := by decide +kernel
theorem dL_turnOf_13 : decode cL_turnOf 13 = .ok (.iconst 1, 1) := by decide +kernel
theorem dL_turnOf_14 : decode cL_turnOf 14 = .ok (.ireturn, 1) := by decide +kernel
theorem dL_turnOf_15 : decode cL_turnOf 15 = .ok (.astore_n 3, 1) := by decide +kernel
theorem dL_turnOf_16 : decode cL_turnOf 16 = .ok (.iconst 2, 1) := by decide +kernel
theorem dL_turnOf_17 : decode cL_turnOf 17 = .ok (.ireturn, 1) := by decide +kernel
theorem dL_turnOf_18 : decode cL_turnOf 18 = .ok (.iconst 0, 1) := by decide +kernel
theorem dL_turnOf_19 : decode cL_turnOf 19 = .ok (.ireturn, 1) := by decide +kernel
theorem dL_fits_0 : decode cL_fits 0 = .ok (.aload 4, 2) := by decide +kernel
theorem dL_fits_2 : decode cL_fits 2 = .ok (.iconst 0, 1) := by decide +kernel
theorem dL_fits_3 : decode cL_fits 3 = .ok (.aload_n 0, 1) := by decide +kernel
theorem dL_fits_4 : decode cL_fits 4 = .ok (.iload_n 1, 1) := by decide +kernel
theorem dL_fits_5 : decode cL_fits 5 = .ok (.iload_n 2, 1) := by decide +kernel
theorem dL_fits_6 : decode cL_fits 6 = .ok (.iload_n 3, 1) := by decide +kernel
theorem dL_fits_7 : decode cL_fits 7 = .ok (.invokevirtual 49, 3) := by decide +kernel
theorem dL_fits_10 : decode cL_fits 10 = .ok (.ifCond .eq 7, 3) := by decide +kernel
theorem dL_fits_13 : decode cL_fits 13 = .ok (.lconst 1, 1) := by decide +kernel
theorem dL_fits_14 : decode cL_fits 14 = .ok (.goto 4, 3) := by decide +kernel
theorem dL_fits_17 : decode cL_fits 17 = .ok (.lconst 0, 1) := by decide +kernel
theorem dL_fits_18 : decode cL_fits 18 = .ok (.lastore, 1) := by decide +kernel
theorem dL_fits_19 : decode cL_fits 19 = .ok (.goto 7, 3) := by decide +kernel
theorem dL_fits_22 : decode cL_fits 22 = .ok (.astore 5, 2) := by decide +kernel
theorem dL_fits_24 : decode cL_fits 24 = .ok (.iconst 1, 1) := by decide +kernel
theorem dL_fits_25 : decode cL_fits 25 = .ok (.ireturn, 1) := by decide +kernel
theorem dL_fits_26 : decode cL_fits 26 = .ok (.iconst 0, 1) := by decide +kernel
theorem dL_fits_27 : decode cL_fits 27 = .ok (.ireturn, 1) := by decide +kernel
theorem dL_edgeAgainst_0 : decode cL_edgeAgainst 0 = .ok (.aload 4, 2) := by decide +kernel
theorem dL_edgeAgainst_2 : decode cL_edgeAgainst 2 = .ok (.iconst 0, 1) := by decide +kernel
theorem dL_edgeAgainst_3 : decode cL_edgeAgainst 3 = .ok (.aload_n 0, 1) := by decide +kernel
theorem dL_edgeAgainst_4 : decode cL_edgeAgainst 4 = .ok (.iload_n 1, 1) := by decide +kernel
theorem dL_edgeAgainst_5 : decode cL_edgeAgainst 5 = .ok (.iload_n 2, 1) := by decide +kernel
theorem dL_edgeAgainst_6 : decode cL_edgeAgainst 6 = .ok (.iload_n 3, 1) := by decide +kernel
theorem dL_edgeAgainst_7 : decode cL_edgeAgainst 7 = .ok (.invokevirtual 53, 3) := by decide +kernel
theorem dL_edgeAgainst_10 : decode cL_edgeAgainst 10 = .ok (.i2l, 1) := by decide +kernel
theorem dL_edgeAgainst_11 : decode cL_edgeAgainst 11 = .ok (.lastore, 1) := by decide +kernel
theorem dL_edgeAgainst_12 : decode cL_edgeAgainst 12 = .ok (.goto 7, 3) := by decide +kernel
theorem dL_edgeAgainst_15 : decode cL_edgeAgainst 15 = .ok (.astore 5, 2) := by decide +kernel
theorem dL_edgeAgainst_17 : decode cL_edgeAgainst 17 = .ok (.iconst 1, 1) := by decide +kernel
theorem dL_edgeAgainst_18 : decode cL_edgeAgainst 18 = .ok (.ireturn, 1) := by decide +kernel
theorem dL_edgeAgainst_19 : decode cL_edgeAgainst 19 = .ok (.iconst 0, 1) := by decide +kernel
theorem dL_edgeAgainst_20 : decode cL_edgeAgainst 20 = .ok (.ireturn, 1) := by decide +kernel
theorem dL_waysOf_0 : decode cL_waysOf 0 = .ok (.aload_n 2, 1) := by decide +kernel
theorem dL_waysOf_1 : decode cL_waysOf 1 = .ok (.iconst 0, 1) := by decide +kernel
theorem dL_waysOf_2 : decode cL_waysOf 2 = .ok (.aload_n 0, 1) := by decide +kernel
theorem dL_waysOf_3 : decode cL_waysOf 3 = .ok (.iload_n 1, 1) := by decide +kernel
theorem dL_waysOf_4 : decode cL_waysOf 4 = .ok (.invokevirtual 57, 3) := by decide +kernel
theorem dL_waysOf_7 : decode cL_waysOf 7 = .ok (.i2l, 1) := by decide +kernel
theorem dL_waysOf_8 : decode cL_waysOf 8 = .ok (.lastore, 1) := by decide +kernel
theorem dL_waysOf_9 : decode cL_waysOf 9 = .ok (.goto 6, 3) := by decide +kernel
theorem dL_waysOf_12 : decode cL_waysOf 12 = .ok (.astore_n 3, 1) := by decide +kernel
theorem dL_waysOf_13 : decode cL_waysOf 13 = .ok (.iconst 1, 1) := by decide +kernel
theorem dL_waysOf_14 : decode cL_waysOf 14 = .ok (.ireturn, 1) := by decide +kernel
theorem dL_waysOf_15 : decode cL_waysOf 15 = .ok (.iconst 0, 1) := by decide +kernel
theorem dL_waysOf_16 : decode cL_waysOf 16 = .ok (.ireturn, 1) := by decide +kernel
theorem dL_isLeftover_0 : decode cL_isLeftover 0 = .ok (.aload_n 2, 1) := by decide +kernel
theorem dL_isLeftover_1 : decode cL_isLeftover 1 = .ok (.iconst 0, 1) := by decide +kernel
theorem dL_isLeftover_2 : decode cL_isLeftover 2 = .ok (.aload_n 0, 1) := by decide +kernel
theorem dL_isLeftover_3 : decode cL_isLeftover 3 = .ok (.iload_n 1, 1) := by decide +kernel
theorem dL_isLeftover_4 : decode cL_isLeftover 4 = .ok (.invokevirtual 60, 3) := by decide +kernel
theorem dL_isLeftover_7 : decode cL_isLeftover 7 = .ok (.ifCond .eq 7, 3) := by decide +kernel
theorem dL_isLeftover_10 : decode cL_isLeftover 10 = .ok (.lconst 1, 1) := by decide +kernel
theorem dL_isLeftover_11 : decode cL_isLeftover 11 = .ok (.goto 4, 3) := by decide +kernel
theorem dL_isLeftover_14 : decode cL_isLeftover 14 = .ok (.lconst 0, 1) := by decide +kernel
theorem dL_isLeftover_15 : decode cL_isLeftover 15 = .ok (.lastore, 1) := by decide +kernel
theorem dL_isLeftover_16 : decode cL_isLeftover 16 = .ok (.goto 6, 3) := by decide +kernel
theorem dL_isLeftover_19 : decode cL_isLeftover 19 = .ok (.astore_n 3, 1) := by decide +kernel
theorem dL_isLeftover_20 : decode cL_isLeftover 20 = .ok (.iconst 1, 1) := by decide +kernel
theorem dL_isLeftover_21 : decode cL_isLeftover 21 = .ok (.ireturn, 1) := by decide +kernel
theorem dL_isLeftover_22 : decode cL_isLeftover 22 = .ok (.iconst 0, 1) := by decide +kernel
theorem dL_isLeftover_23 : decode cL_isLeftover 23 = .ok (.ireturn, 1) := by decide +kernel
theorem dL_looksToProve_0 : decode cL_looksToProve 0 = .ok (.aload_n 2, 1) := by decide +kernel
theorem dL_looksToProve_1 : decode cL_looksToProve 1 = .ok (.iconst 0, 1) := by decide +kernel
theorem dL_looksToProve_2 : decode cL_looksToProve 2 = .ok (.aload_n 0, 1) := by decide +kernel
theorem dL_looksToProve_3 : decode cL_looksToProve 3 = .ok (.iload_n 1, 1) := by decide +kernel
theorem dL_looksToProve_4 : decode cL_looksToProve 4 = .ok (.invokevirtual 63, 3) := by decide +kernel
theorem dL_looksToProve_7 : decode cL_looksToProve 7 = .ok (.i2l, 1) := by decide +kernel
theorem dL_looksToProve_8 : decode cL_looksToProve 8 = .ok (.lastore, 1) := by decide +kernel
theorem dL_looksToProve_9 : decode cL_looksToProve 9 = .ok (.goto 9, 3) := by decide +kernel
theorem dL_looksToProve_12 : decode cL_looksToProve 12 = .ok (.astore_n 3, 1) := by decide +kernel
theorem dL_looksToProve_13 : decode cL_looksToProve 13 = .ok (.iconst 1, 1) := by decide +kernel
theorem dL_looksToProve_14 : decode cL_looksToProve 14 = .ok (.ireturn, 1) := by decide +kernel
theorem dL_looksToProve_15 : decode cL_looksToProve 15 = .ok (.astore_n 3, 1) := by decide +kernel
theorem dL_looksToProve_16 : decode cL_looksToProve 16 = .ok (.iconst 2, 1) := by decide +kernel
theorem dL_looksToProve_17 : decode cL_looksToProve 17 = .ok (.ireturn, 1) := by decide +kernel
theorem dL_looksToProve_18 : decode cL_looksToProve 18 = .ok (.iconst 0, 1) := by decide +kernel
theorem dL_looksToProve_19 : decode cL_looksToProve 19 = .ok (.ireturn, 1) := by decide +kernel
theorem dL_putTile_0 : decode cL_putTile 0 = .ok (.aload 4, 2) := by decide +kernel
theorem dL_putTile_2 : decode cL_putTile 2 = .ok (.iconst 0, 1) := by decide +kernel
theorem dL_putTile_3 : decode cL_putTile 3 = .ok (.aload_n 0, 1) := by decide +kernel
theorem dL_putTile_4 : decode cL_putTile 4 = .ok (.iload_n 1, 1) := by decide +kernel
theorem dL_putTile_5 : decode cL_putTile 5 = .ok (.iload_n 2, 1) := by decide +kernel
theorem dL_putTile_6 : decode cL_putTile 6 = .ok (.iload_n 3, 1) := by decide +kernel
theorem dL_putTile_7 : decode cL_putTile 7 = .ok (.invokevirtual 66, 3) := by decide +kernel
theorem dL_putTile_10 : decode cL_putTile 10 = .ok (.i2l, 1) := by decide +kernel
theorem dL_putTile_11 : decode cL_putTile 11 = .ok (.lastore, 1) := by decide +kernel
theorem dL_putTile_12 : decode cL_putTile 12 = .ok (.goto 11, 3) := by decide +kernel
theorem dL_putTile_15 : decode cL_putTile 15 = .ok (.astore 5, 2) := by decide +kernel
theorem dL_putTile_17 : decode cL_putTile 17 = .ok (.iconst 1, 1) := by decide +kernel
theorem dL_putTile_18 : decode cL_putTile 18 = .ok (.ireturn, 1) := by decide +kernel
theorem dL_putTile_19 : decode cL_putTile 19 = .ok (.astore 5, 2) := by decide +kernel
theorem dL_putTile_21 : decode cL_putTile 21 = .ok (.iconst 2, 1) := by decide +kernel
theorem dL_putTile_22 : decode cL_putTile 22 = .ok (.ireturn, 1) := by decide +kernel
theorem dL_putTile_23 : decode cL_putTile 23 = .ok (.iconst 0, 1) := by decide +kernel
theorem dL_putTile_24 : decode cL_putTile 24 = .ok (.ireturn, 1) := by decide +kernel
theorem dL_takeTile_0 : decode cL_takeTile 0 = .ok (.aload_n 2, 1) := by decide +kernel
theorem dL_takeTile_1 : decode cL_takeTile 1 = .ok (.iconst 0, 1) := by decide +kernel
theorem dL_takeTile_2 : decode cL_takeTile 2 = .ok (.aload_n 0, 1) := by decide +kernel
theorem dL_takeTile_3 : decode cL_takeTile 3 = .ok (.iload_n 1, 1) := by decide +kernel
theorem dL_takeTile_4 : decode cL_takeTile 4 = .ok (.invokevirtual 69, 3) := by decide +kernel
theorem dL_takeTile_7 : decode cL_takeTile 7 = .ok (.i2l, 1) := by decide +kernel
theorem dL_takeTile_8 : decode cL_takeTile 8 = .ok (.lastore, 1) := by decide +kernel
theorem dL_takeTile_9 : decode cL_takeTile 9 = .ok (.goto 9, 3) := by decide +kernel
theorem dL_takeTile_12 : decode cL_takeTile 12 = .ok (.astore_n 3, 1) := by decide +kernel
theorem dL_takeTile_13 : decode cL_takeTile 13 = .ok (.iconst 1, 1) := by decide +kernel
theorem dL_takeTile_14 : decode cL_takeTile 14 = .ok (.ireturn, 1) := by decide +kernel
theorem dL_takeTile_15 : decode cL_takeTile 15 = .ok (.astore_n 3, 1) := by decide +kernel
theorem dL_takeTile_16 : decode cL_takeTile 16 = .ok (.iconst 2, 1) := by decide +kernel
theorem dL_takeTile_17 : decode cL_takeTile 17 = .ok (.ireturn, 1) := by decide +kernel
theorem dL_takeTile_18 : decode cL_takeTile 18 = .ok (.iconst 0, 1) := by decide +kernel
theorem dL_takeTile_19 : decode cL_takeTile 19 = .ok (.ireturn, 1) := by decide +kernel
theorem dL_fitTile_0 : decode cL_fitTile 0 = .ok (.aload_n 2, 1) := by decide +kernel
theorem dL_fitTile_1 : decode cL_fitTile 1 = .ok (.iconst 0, 1) := by decide +kernel
theorem dL_fitTile_2 : decode cL_fitTile 2 = .ok (.aload_n 0, 1) := by decide +kernel
theorem dL_fitTile_3 : decode cL_fitTile 3 = .ok (.iload_n 1, 1) := by decide +kernel
theorem dL_fitTile_4 : decode cL_fitTile 4 = .ok (.invokevirtual 72, 3) := by decide +kernel
theorem dL_fitTile_7 : decode cL_fitTile 7 = .ok (.i2l, 1) := by decide +kernel
theorem dL_fitTile_8 : decode cL_fitTile 8 = .ok (.lastore, 1) := by decide +kernel
theorem dL_fitTile_9 : decode cL_fitTile 9 = .ok (.goto 9, 3) := by decide +kernel
theorem dL_fitTile_12 : decode cL_fitTile 12 = .ok (.astore_n 3, 1) := by decide +kernel
theorem dL_fitTile_13 : decode cL_fitTile 13 = .ok (.iconst 1, 1) := by decide +kernel
theorem dL_fitTile_14 : decode cL_fitTile 14 = .ok (.ireturn, 1) := by decide +kernel
theorem dL_fitTile_15 : decode cL_fitTile 15 = .ok (.astore_n 3, 1) := by decide +kernel
theorem dL_fitTile_16 : decode cL_fitTile 16 = .ok (.iconst 2, 1) := by decide +kernel
theorem dL_fitTile_17 : decode cL_fitTile 17 = .ok (.ireturn, 1) := by decide +kernel
theorem dL_fitTile_18 : decode cL_fitTile 18 = .ok (.iconst 0, 1) := by decide +kernel
theorem dL_fitTile_19 : decode cL_fitTile 19 = .ok (.ireturn, 1) := by decide +kernel
theorem dL_playRounds_0 : decode cL_playRounds 0 = .ok (.aload_n 2, 1) := by decide +kernel
theorem dL_playRounds_1 : decode cL_playRounds 1 = .ok (.iconst 0, 1) := by decide +kernel
theorem dL_playRounds_2 : decode cL_playRounds 2 = .ok (.aload_n 0, 1) := by decide +kernel
theorem dL_playRounds_3 : decode cL_playRounds 3 = .ok (.iload_n 1, 1) := by decide +kernel
theorem dL_playRounds_4 : decode cL_playRounds 4 = .ok (.invokevirtual 75, 3) := by decide +kernel
theorem dL_playRounds_7 : decode cL_playRounds 7 = .ok (.i2l, 1) := by decide +kernel
theorem dL_playRounds_8 : decode cL_playRounds 8 = .ok (.lastore, 1) := by decide +kernel
theorem dL_playRounds_9 : decode cL_playRounds 9 = .ok (.goto 6, 3) := by decide +kernel
theorem dL_playRounds_12 : decode cL_playRounds 12 = .ok (.astore_n 3, 1) := by decide +kernel
theorem dL_playRounds_13 : decode cL_playRounds 13 = .ok (.iconst 1, 1) := by decide +kernel
theorem dL_playRounds_14 : decode cL_playRounds 14 = .ok (.ireturn, 1) := by decide +kernel
theorem dL_playRounds_15 : decode cL_playRounds 15 = .ok (.iconst 0, 1) := by decide +kernel
theorem dL_playRounds_16 : decode cL_playRounds 16 = .ok (.ireturn, 1) := by decide +kernel
theorem dL_pointsAfter_0 : decode cL_pointsAfter 0 = .ok (.aload_n 2, 1) := by decide +kernel
theorem dL_pointsAfter_1 : decode cL_pointsAfter 1 = .ok (.iconst 0, 1) := by decide +kernel
theorem dL_pointsAfter_2 : decode cL_pointsAfter 2 = .ok (.aload_n 0, 1) := by decide +kernel
theorem dL_pointsAfter_3 : decode cL_pointsAfter 3 = .ok (.iload_n 1, 1) := by decide +kernel
theorem dL_pointsAfter_4 : decode cL_pointsAfter 4 = .ok (.invokevirtual 78, 3) := by decide +kernel
theorem dL_pointsAfter_7 : decode cL_pointsAfter 7 = .ok (.i2l, 1) := by decide +kernel
theorem dL_pointsAfter_8 : decode cL_pointsAfter 8 = .ok (.lastore, 1) := by decide +kernel
theorem dL_pointsAfter_9 : decode cL_pointsAfter 9 = .ok (.goto 6, 3) := by decide +kernel
theorem dL_pointsAfter_12 : decode cL_pointsAfter 12 = .ok (.astore_n 3, 1) := by decide +kernel
theorem dL_pointsAfter_13 : decode cL_pointsAfter 13 = .ok (.iconst 1, 1) := by decide +kernel
theorem dL_pointsAfter_14 : decode cL_pointsAfter 14 = .ok (.ireturn, 1) := by decide +kernel
theorem dL_pointsAfter_15 : decode cL_pointsAfter 15 = .ok (.iconst 0, 1) := by decide +kernel
theorem dL_pointsAfter_16 : decode cL_pointsAfter 16 = .ok (.ireturn, 1) := by decide +kernel
theorem dL_bestCell_0 : decode cL_bestCell 0 = .ok (.aload_n 2, 1) := by decide +kernel
theorem dL_bestCell_1 : decode cL_bestCell 1 = .ok (.iconst 0, 1) := by decide +kernel
theorem dL_bestCell_2 : decode cL_bestCell 2 = .ok (.aload_n 0, 1) := by decide +kernel
theorem dL_bestCell_3 : decode cL_bestCell 3 = .ok (.iload_n 1, 1) := by decide +kernel
theorem dL_bestCell_4 : decode cL_bestCell 4 = .ok (.invokevirtual 81, 3) := by decide +kernel
theorem dL_bestCell_7 : decode cL_bestCell 7 = .ok (.i2l, 1) := by decide +kernel
theorem dL_bestCell_8 : decode cL_bestCell 8 = .ok (.lastore, 1) := by decide +kernel
theorem dL_bestCell_9 : decode cL_bestCell 9 = .ok (.goto 9, 3) := by decide +kernel
theorem dL_bestCell_12 : decode cL_bestCell 12 = .ok (.astore_n 3, 1) := by decide +kernel
theorem dL_bestCell_13 : decode cL_bestCell 13 = .ok (.iconst 1, 1) := by decide +kernel
theorem dL_bestCell_14 : decode cL_bestCell 14 = .ok (.ireturn, 1) := by decide +kernel
theorem dL_bestCell_15 : decode cL_bestCell 15 = .ok (.astore_n 3, 1) := by decide +kernel
theorem dL_bestCell_16 : decode cL_bestCell 16 = .ok (.iconst 2, 1) := by decide +kernel
theorem dL_bestCell_17 : decode cL_bestCell 17 = .ok (.ireturn, 1) := by decide +kernel
theorem dL_bestCell_18 : decode cL_bestCell 18 = .ok (.iconst 0, 1) := by decide +kernel
theorem dL_bestCell_19 : decode cL_bestCell 19 = .ok (.ireturn, 1) := by decide +kernel
theorem dL_bestTurn_0 : decode cL_bestTurn 0 = .ok (.aload_n 2, 1) := by decide +kernel
theorem dL_bestTurn_1 : decode cL_bestTurn 1 = .ok (.iconst 0, 1) := by decide +kernel
theorem dL_bestTurn_2 : decode cL_bestTurn 2 = .ok (.aload_n 0, 1) := by decide +kernel
theorem dL_bestTurn_3 : decode cL_bestTurn 3 = .ok (.iload_n 1, 1) := by decide +kernel
theorem dL_bestTurn_4 : decode cL_bestTurn 4 = .ok (.invokevirtual 84, 3) := by decide +kernel
theorem dL_bestTurn_7 : decode cL_bestTurn 7 = .ok (.i2l, 1) := by decide +kernel
theorem dL_bestTurn_8 : decode cL_bestTurn 8 = .ok (.lastore, 1) := by decide +kernel
theorem dL_bestTurn_9 : decode cL_bestTurn 9 = .ok (.goto 9, 3) := by decide +kernel
theorem dL_bestTurn_12 : decode cL_bestTurn 12 = .ok (.astore_n 3, 1) := by decide +kernel
theorem dL_bestTurn_13 : decode cL_bestTurn 13 = .ok (.iconst 1, 1) := by decide +kernel
theorem dL_bestTurn_14 : decode cL_bestTurn 14 = .ok (.ireturn, 1) := by decide +kernel
theorem dL_bestTurn_15 : decode cL_bestTurn 15 = .ok (.astore_n 3, 1) := by decide +kernel
theorem dL_bestTurn_16 : decode cL_bestTurn 16 = .ok (.iconst 2, 1) := by decide +kernel
theorem dL_bestTurn_17 : decode cL_bestTurn 17 = .ok (.ireturn, 1) := by decide +kernel
theorem dL_bestTurn_18 : decode cL_bestTurn 18 = .ok (.iconst 0, 1) := by decide +kernel
theorem dL_bestTurn_19 : decode cL_bestTurn 19 = .ok (.ireturn, 1) := by decide +kernel
def kL_feed : eK := (RL, yL_feed, cL_feed, 8, some .int)
abbrev hhL_feed : xHH := [(0, 16, 19, 13)]
theorem mtL_feed : eMT kL_feed hhL_feed 7 := ⟨tb4 _ (List.mem_of_getElem? (i := 216) rfl), tb4 _ (List.mem_of_getElem? (i := 215) rfl), tb1 _ (List.mem_of_getElem? (i := 0) rfl), by decide +kernel, by decide +kernel⟩
def kL_trim : eK := (RL, yL_trim, cL_trim, 4, some .int)
abbrev hhL_trim : xHH := [(0, 9, 12, 19)]
theorem mtL_trim : eMT kL_trim hhL_trim 3 := ⟨tb5 _ (List.mem_of_getElem? (i := 59) rfl), tb5 _ (List.mem_of_getElem? (i := 58) rfl), tb1 _ (List.mem_of_getElem? (i := 0) rfl), by decide +kernel, by decide +kernel⟩
def kL_hasTile : eK := (RL, yL_hasTile, cL_hasTile, 4, some .int)
abbrev hhL_hasTile : xHH := [(0, 16, 19, 25)]
theorem mtL_hasTile : eMT kL_hasTile hhL_hasTile 3 := ⟨tb5 _ (List.mem_of_getElem? (i := 83) rfl), tb5 _ (List.mem_of_getElem? (i := 82) rfl), tb1 _ (List.mem_of_getElem? (i := 0) rfl), by decide +kernel, by decide +kernel⟩
def kL_tileAt : eK := (RL, yL_tileAt, cL_tileAt, 4, some .int)
abbrev hhL_tileAt : xHH := [(0, 9, 12, 25), (0, 9, 15, 13)]
theorem mtL_tileAt : eMT kL_tileAt hhL_tileAt 3 := ⟨tb5 _ (List.mem_of_getElem? (i := 111) rfl), tb5 _ (List.mem_of_getElem? (i := 110) rfl), tb1 _ (List.mem_of_getElem? (i := 0) rfl), by decide +kernel, by decide +kernel⟩
def kL_numberAt : eK := (RL, yL_numberAt, cL_numberAt, 5, some .int)
abbrev hhL_numberAt : xHH := [(0, 10, 13, 25), (0, 10, 17, 13)]
theorem mtL_numberAt : eMT kL_numberAt hhL_numberAt 4 := ⟨tb5 _ (List.mem_of_getElem? (i := 123) rfl), tb5 _ (List.mem_of_getElem? (i := 122) rfl), tb1 _ (List.mem_of_getElem? (i := 0) rfl), by decide +kernel, by decide +kernel⟩
def kL_matchesOf : eK := (RL, yL_matchesOf, cL_matchesOf, 4, some .int)
abbrev hhL_matchesOf : xHH := [(0, 9, 12, 25)]
theorem mtL_matchesOf : eMT kL_matchesOf hhL_matchesOf 3 := ⟨tb5 _ (List.mem_of_getElem? (i := 136) rfl), tb5 _ (List.mem_of_getElem? (i := 135) rfl), tb1 _ (List.mem_of_getElem? (i := 0) rfl), by decide +kernel, by decide +kernel⟩
def kL_isRing : eK := (RL, yL_isRing, cL_isRing, 4, some .int)
abbrev hhL_isRing : xHH := [(0, 16, 19, 25)]
theorem mtL_isRing : eMT kL_isRing hhL_isRing 3 := ⟨tb5 _ (List.mem_of_getElem? (i := 143) rfl), tb5 _ (List.mem_of_getElem? (i := 142) rfl), tb1 _ (List.mem_of_getElem? (i := 0) rfl), by decide +kernel, by decide +kernel⟩
def kL_isPlaced : eK := (RL, yL_isPlaced, cL_isPlaced, 4, some .int)
abbrev hhL_isPlaced : xHH := [(0, 16, 19, 25)]
theorem mtL_isPlaced : eMT kL_isPlaced hhL_isPlaced 3 := ⟨tb5 _ (List.mem_of_getElem? (i := 150) rfl), tb5 _ (List.mem_of_getElem? (i := 149) rfl), tb1 _ (List.mem_of_getElem? (i := 0) rfl), by decide +kernel, by decide +kernel⟩
def kL_cellOf : eK := (RL, yL_cellOf, cL_cellOf, 4, some .int)
abbrev hhL_cellOf : xHH := [(0, 9, 12, 25), (0, 9, 15, 13)]
theorem mtL_cellOf : eMT kL_cellOf hhL_cellOf 3 := ⟨tb5 _ (List.mem_of_getElem? (i := 163) rfl), tb5 _ (List.mem_of_getElem? (i := 162) rfl), tb1 _ (List.mem_of_getElem? (i := 0) rfl), by decide +kernel, by decide +kernel⟩
def kL_turnOf : eK := (RL, yL_turnOf, cL_turnOf, 4, some .int)
abbrev hhL_turnOf : xHH := [(0, 9, 12, 25), (0, 9, 15, 13)]
theorem mtL_turnOf : eMT kL_turnOf hhL_turnOf 3 := ⟨tb5 _ (List.mem_of_getElem? (i := 175) rfl), tb5 _ (List.mem_of_getElem? (i := 174) rfl), tb1 _ (List.mem_of_getElem? (i := 0) rfl), by decide +kernel, by decide +kernel⟩
def kL_fits : eK := (RL, yL_fits, cL_fits, 6, some .int)
abbrev hhL_fits : xHH := [(0, 19, 22, 25)]
theorem mtL_fits : eMT kL_fits hhL_fits 5 := ⟨tb5 _ (List.mem_of_getElem? (i := 182) rfl), tb5 _ (List.mem_of_getElem? (i := 181) rfl), tb1 _ (List.mem_of_getElem? (i := 0) rfl), by decide +kernel, by decide +kernel⟩
def kL_edgeAgainst : eK := (RL, yL_edgeAgainst, cL_edgeAgainst, 6, some .int)
abbrev hhL_edgeAgainst : xHH := [(0, 12, 15, 25)]
theorem mtL_edgeAgainst : eMT kL_edgeAgainst hhL_edgeAgainst 5 := ⟨tb5 _ (List.mem_of_getElem? (i := 194) rfl), tb5 _ (List.mem_of_getElem? (i := 193) rfl), tb1 _ (List.mem_of_getElem? (i := 0) rfl), by decide +kernel, by decide +kernel⟩
def kL_waysOf : eK := (RL, yL_waysOf, cL_waysOf, 4, some .int)
abbrev hhL_waysOf : xHH := [(0, 9, 12, 25)]
theorem mtL_waysOf : eMT kL_waysOf hhL_waysOf 3 := ⟨tb5 _ (List.mem_of_getElem? (i := 205) rfl), tb5 _ (List.mem_of_getElem? (i := 204) rfl), tb1 _ (List.mem_of_getElem? (i := 0) rfl), by decide +kernel, by decide +kernel⟩
def kL_isLeftover : eK := (RL, yL_isLeftover, cL_isLeftover, 4, some .int)
abbrev hhL_isLeftover : xHH := [(0, 16, 19, 25)]
theorem mtL_isLeftover : eMT kL_isLeftover hhL_isLeftover 3 := ⟨tb5 _ (List.mem_of_getElem? (i := 212) rfl), tb5 _ (List.mem_of_getElem? (i := 211) rfl), tb1 _ (List.mem_of_getElem? (i := 0) rfl), by decide +kernel, by decide +kernel⟩
def kL_looksToProve : eK := (RL, yL_looksToProve, cL_looksToProve, 4, some .int)
abbrev hhL_looksToProve : xHH := [(0, 9, 12, 25), (0, 9, 15, 13)]
theorem mtL_looksToProve : eMT kL_looksToProve hhL_looksToProve 3 := ⟨tb5 _ (List.mem_of_getElem? (i := 220) rfl), tb5 _ (List.mem_of_getElem? (i := 219) rfl), tb1 _ (List.mem_of_getElem? (i := 0) rfl), by decide +kernel, by decide +kernel⟩
def kL_putTile : eK := (RL, yL_putTile, cL_putTile, 6, some .int)
abbrev hhL_putTile : xHH := [(0, 12, 15, 25), (0, 12, 19, 13)]
theorem mtL_putTile : eMT kL_putTile hhL_putTile 5 := ⟨tb5 _ (List.mem_of_getElem? (i := 236) rfl), tb5 _ (List.mem_of_getElem? (i := 235) rfl), tb1 _ (List.mem_of_getElem? (i := 0) rfl), by decide +kernel, by decide +kernel⟩
def kL_takeTile : eK := (RL, yL_takeTile, cL_takeTile, 4, some .int)
abbrev hhL_takeTile : xHH := [(0, 9, 12, 25), (0, 9, 15, 13)]
theorem mtL_takeTile : eMT kL_takeTile hhL_takeTile 3 := ⟨tb6 _ (List.mem_of_getElem? (i := 6) rfl), tb6 _ (List.mem_of_getElem? (i := 5) rfl), tb1 _ (List.mem_of_getElem? (i := 0) rfl), by decide +kernel, by decide +kernel⟩
def kL_fitTile : eK := (RL, yL_fitTile, cL_fitTile, 4, some .int)
abbrev hhL_fitTile : xHH := [(0, 9, 12, 25), (0, 9, 15, 13)]
theorem mtL_fitTile : eMT kL_fitTile hhL_fitTile 3 := ⟨tb6 _ (List.mem_of_getElem? (i := 14) rfl), tb6 _ (List.mem_of_getElem? (i := 13) rfl), tb1 _ (List.mem_of_getElem? (i := 0) rfl), by decide +kernel, by decide +kernel⟩
def kL_playRounds : eK := (RL, yL_playRounds, cL_playRounds, 4, some .int)
abbrev hhL_playRounds : xHH := [(0, 9, 12, 19)]
theorem mtL_playRounds : eMT kL_playRounds hhL_playRounds 3 := ⟨tb6 _ (List.mem_of_getElem? (i := 27) rfl), tb6 _ (List.mem_of_getElem? (i := 26) rfl), tb1 _ (List.mem_of_getElem? (i := 0) rfl), by decide +kernel, by decide +kernel⟩
def kL_pointsAfter : eK := (RL, yL_pointsAfter, cL_pointsAfter, 4, some .int)
abbrev hhL_pointsAfter : xHH := [(0, 9, 12, 19)]
theorem mtL_pointsAfter : eMT kL_pointsAfter hhL_pointsAfter 3 := ⟨tb6 _ (List.mem_of_getElem? (i := 39) rfl), tb6 _ (List.mem_of_getElem? (i := 38) rfl), tb1 _ (List.mem_of_getElem? (i := 0) rfl), by decide +kernel, by decide +kernel⟩
def kL_bestCell : eK := (RL, yL_bestCell, cL_bestCell, 4, some .int)
abbrev hhL_bestCell : xHH := [(0, 9, 12, 25), (0, 9, 15, 13)]
theorem mtL_bestCell : eMT kL_bestCell hhL_bestCell 3 := ⟨tb6 _ (List.mem_of_getElem? (i := 46) rfl), tb6 _ (List.mem_of_getElem? (i := 45) rfl), tb1 _ (List.mem_of_getElem? (i := 0) rfl), by decide +kernel, by decide +kernel⟩
def kL_bestTurn : eK := (RL, yL_bestTurn, cL_bestTurn, 4, some .int)
abbrev hhL_bestTurn : xHH := [(0, 9, 12, 25), (0, 9, 15, 13)]
theorem mtL_bestTurn : eMT kL_bestTurn hhL_bestTurn 3 := ⟨tb6 _ (List.mem_of_getElem? (i := 54) rfl), tb6 _ (List.mem_of_getElem? (i := 53) rfl), tb1 _ (List.mem_of_getElem? (i := 0) rfl), by decide +kernel, by decide +kernel⟩
theorem xcast_ISE : Cond.castable "java/lang/IllegalStateException" "java/lang/IllegalStateException" ∈ lw_tbl := tb4 _ (List.mem_of_getElem? (i := 228) rfl)
theorem xcast_IAE : Cond.castable "java/lang/IllegalArgumentException" "java/lang/IllegalArgumentException" ∈ lw_tbl := tb5 _ (List.mem_of_getElem? (i := 67) rfl)
theorem xcast_IOE : Cond.castable "java/lang/IndexOutOfBoundsException" "java/lang/IndexOutOfBoundsException" ∈ lw_tbl := tb5 _ (List.mem_of_getElem? (i := 95) rfl)
theorem xcl_13 : Cond.classLink RL 13 "java/lang/IllegalStateException" ∈ lw_tbl := tb4 _ (List.mem_of_getElem? (i := 217) rfl)
theorem xcl_19 : Cond.classLink RL 19 "java/lang/IllegalArgumentException" ∈ lw_tbl := tb5 _ (List.mem_of_getElem? (i := 60) rfl)
theorem xcl_25 : Cond.classLink RL 25 "java/lang/IndexOutOfBoundsException" ∈ lw_tbl := tb5 _ (List.mem_of_getElem? (i := 84) rfl)
